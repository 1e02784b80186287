/-- VowBlocksModel.<init>()V -/
def f_X7_init (S : St) (sz : Nat) (a0 : Nat) : Option (St × Nat) :=
  (pR (va_up S sz (some (arI 260 (fun _ => 0)))) a0 6 0 sz).bind fun Z1 =>
  (pR (va_up Z1 (sz + 1) (some (arI 1560 (fun _ => 0)))) a0 6 2 (sz + 1)).bind fun Z3 =>
  (pR (va_up Z3 ((sz + 1) + 1) (some (arI 60 (fun _ => 0)))) a0 6 4 ((sz + 1) + 1)).bind fun Z5 =>
  (pR (va_up Z5 (((sz + 1) + 1) + 1) (some (arI 48 (fun _ => 0)))) a0 6 6 (((sz + 1) + 1) + 1)).bind fun Z7 =>
  (pR (va_up Z7 ((((sz + 1) + 1) + 1) + 1) (some (arI 64 (fun _ => 0)))) a0 6 8 ((((sz + 1) + 1) + 1) + 1)).bind fun Z9 =>
  (gR Z9 a0 6 0).bind fun x11 =>
  (sI Z9 x11 0 30).bind fun Z13 =>
  (gR Z13 a0 6 0).bind fun x15 =>
  (sI Z13 x15 1 4).bind fun Z17 =>
  some (Z17, (((((sz + 1) + 1) + 1) + 1) + 1))
abbrev rm_X7_init : Room := { frames := 1, cells := 5, slots := 1992, locals := 12 }
set_option maxHeartbeats 4000000 in
set_option maxRecDepth 100000 in
theorem m_X7_init (l : Launch) (D : va_G) (cy : Nat → ClassId) (sz : Nat) (S : St) (a0 : Nat) (S1 : St) (sz1 : Nat) (h : f_X7_init S sz a0 = some (S1, sz1)) : Met l yX7_init (wsA yX7_init cX7_init 1 none) rm_X7_init (va_Pc [.ref a0] (PNA D cy S sz)) (va_Qv (fun _ : Unit => True) (fun _ t => t.heap.size = sz1 ∧ PoS D cy S1 (dm S sz) t) (dm S sz)) 5 1992 (dm S sz) := by
  refine Met.ofW (cc := cX7_init) (maxL := 1) (ret := none) (by decide) rfl ?_
  intro p e s m args below meth c s₁ B hml hv
  obtain ⟨rfl, hz, hP, hK, hE⟩ := hv
  have hx := B.exec
  have hb := B.bytes
  have hr := B.returns
  have hts9 := atoms_spec (ws := wsA yX7_init cX7_init 1 none) B.pre
  have hts : ∀ w ∈ ALLW, w.before _ s = true := fun w h => hts9 w (List.mem_cons_of_mem _ h)
  have hown : s.vm.findClass RX7 = some m.cls := findClass_of_methodNamed B.named
  have hlocks := B.notSynchronized
  have hin : meth.name = "<init>" := (name_of_methodNamed B.named B.method).1
  have hD : ∀ a, S a ≠ none → dm S sz a := fun a h => Or.inl h
  have hA : ∀ q : Nat, s.heap.size ≤ q → dm S sz q := fun q h => Or.inr (hz ▸ h)
  have hS : va_S (dm S sz) s.heap s.heap [] := va_S.rf
  have hl := lv_entry [.ref a0] (n := 1) (Nat.le_of_ble_eq_true rfl)
  rw [lg_entry_eq]
  generalize (lg_sl [.ref a0] ++ List.replicate (1 - (lg_sl [.ref a0]).length) Slot.unset).toArray = ls at hl ⊢
  have hl : lv_has ls 1 [(0, .ref a0)] := hl
  rw [f_X7_init] at h
  refine lv_aload_n hx hb dX7_init_0 rfl (lv_at hl 0 rfl) ?_
  refine W.objInit hx hb hown (hts _ wd_886) (hts _ wd_91) (hts _ wd_92) rfl (hl.1.trans hml.symm) rfl dX7_init_1 (Nat.le_of_ble_eq_true rfl) (Nat.le_of_ble_eq_true rfl) ?_
  refine lv_aload_n hx hb dX7_init_4 rfl (lv_at hl 0 rfl) ?_
  refine lv_sipush (v := 260) hx hb dX7_init_5 (by decide) ?_
  refine r_newI hx hb (hts _ wd_119) hK hP hD hS hA (N := 260) (by decide) (by decide) (by decide) (Nat.le_of_ble_eq_true rfl) (Nat.le_of_ble_eq_true rfl) dX7_init_8 hz (fun H hz hP hD hS => ?_)
  replace h := bd h
  obtain ⟨Z1, q2, h⟩ := h
  refine fp_6_0 hx hb hts hown hK hP hD hS hin rfl wd_887 q2 dX7_init_10 (fun H locs hz9 hP hD hS => ?_)
  replace hz := hz9.trans hz
  refine lv_aload_n hx hb dX7_init_13 rfl (lv_at hl 0 rfl) ?_
  refine lv_sipush (v := 1560) hx hb dX7_init_14 (by decide) ?_
  refine r_newI hx hb (hts _ wd_119) hK hP hD hS hA (N := 1560) (by decide) (by decide) (by decide) (Nat.le_of_ble_eq_true rfl) (Nat.le_of_ble_eq_true rfl) dX7_init_17 hz (fun H hz hP hD hS => ?_)
  replace h := bd h
  obtain ⟨Z3, q4, h⟩ := h
  refine fp_6_2 hx hb hts hown hK hP hD hS hin rfl wd_889 q4 dX7_init_19 (fun H locs hz9 hP hD hS => ?_)
  replace hz := hz9.trans hz
  refine lv_aload_n hx hb dX7_init_22 rfl (lv_at hl 0 rfl) ?_
  refine lv_bipush (v := 60) hx hb dX7_init_23 (by decide) ?_
  refine r_newI hx hb (hts _ wd_119) hK hP hD hS hA (N := 60) (by decide) (by decide) (by decide) (Nat.le_of_ble_eq_true rfl) (Nat.le_of_ble_eq_true rfl) dX7_init_25 hz (fun H hz hP hD hS => ?_)
  replace h := bd h
  obtain ⟨Z5, q6, h⟩ := h
  refine fp_6_4 hx hb hts hown hK hP hD hS hin rfl wd_891 q6 dX7_init_27 (fun H locs hz9 hP hD hS => ?_)
  replace hz := hz9.trans hz
  refine lv_aload_n hx hb dX7_init_30 rfl (lv_at hl 0 rfl) ?_
  refine lv_bipush (v := 48) hx hb dX7_init_31 (by decide) ?_
  refine r_newI hx hb (hts _ wd_119) hK hP hD hS hA (N := 48) (by decide) (by decide) (by decide) (Nat.le_of_ble_eq_true rfl) (Nat.le_of_ble_eq_true rfl) dX7_init_33 hz (fun H hz hP hD hS => ?_)
  replace h := bd h
  obtain ⟨Z7, q8, h⟩ := h
  refine fp_6_6 hx hb hts hown hK hP hD hS hin rfl wd_893 q8 dX7_init_35 (fun H locs hz9 hP hD hS => ?_)
  replace hz := hz9.trans hz
  refine lv_aload_n hx hb dX7_init_38 rfl (lv_at hl 0 rfl) ?_
  refine lv_bipush (v := 64) hx hb dX7_init_39 (by decide) ?_
  refine r_newI hx hb (hts _ wd_119) hK hP hD hS hA (N := 64) (by decide) (by decide) (by decide) (Nat.le_of_ble_eq_true rfl) (Nat.le_of_ble_eq_true rfl) dX7_init_41 hz (fun H hz hP hD hS => ?_)
  replace h := bd h
  obtain ⟨Z9, q10, h⟩ := h
  refine fp_6_8 hx hb hts hown hK hP hD hS hin rfl wd_895 q10 dX7_init_43 (fun H locs hz9 hP hD hS => ?_)
  replace hz := hz9.trans hz
  refine lv_aload_n hx hb dX7_init_46 rfl (lv_at hl 0 rfl) ?_
  replace h := bd h
  obtain ⟨x11, q12, h⟩ := h
  refine fg_6_0 hx hb hts hown hK hP wd_887 q12 dX7_init_47 ?_
  refine lv_iconst (v := 0) hx hb dX7_init_50 (by decide) ?_
  refine lv_bipush (v := 30) hx hb dX7_init_51 (by decide) ?_
  replace h := bd h
  obtain ⟨Z13, q14, h⟩ := h
  refine r_sI hx hb hK hP hD hS q14 dX7_init_53 (fun H locs hz9 hP hD hS => ?_)
  replace hz := hz9.trans hz
  refine lv_aload_n hx hb dX7_init_54 rfl (lv_at hl 0 rfl) ?_
  replace h := bd h
  obtain ⟨x15, q16, h⟩ := h
  refine fg_6_0 hx hb hts hown hK hP wd_887 q16 dX7_init_55 ?_
  refine lv_iconst (v := 1) hx hb dX7_init_58 (by decide) ?_
  refine lv_iconst (v := 4) hx hb dX7_init_59 (by decide) ?_
  replace h := bd h
  obtain ⟨Z17, q18, h⟩ := h
  refine r_sI hx hb hK hP hD hS q18 dX7_init_60 (fun H locs hz9 hP hD hS => ?_)
  replace hz := hz9.trans hz
  cases h
  exact e_vA hx hb hlocks hr hP hD hz hS (Nat.le_of_ble_eq_true rfl) (Nat.le_of_ble_eq_true rfl) dX7_init_61
set_option maxRecDepth 100000 in
theorem c_X7_init {p : Program} {l : Launch} {e : Env} {R : Room} {s : State} {m : MethodId} {args : Array Value} {below : List Frame} {meth : Method} {c : Code} {H : Heap} {locs : List Loc} {cells slots : Nat} {Q : State → Prop} {cc : ByteArray} {pc index nL : Nat} {ls : Array Slot} {rest : List Value} {D : va_G} {cy : Nat → ClassId} {A0 : Nat → Prop} {S : St} {H0 : Heap} {own : String} {a0 : Nat} {S1 : St} {sz1 szv : Nat}  (hF : CallFix p m c cc nL s args ALLW own) (hsz : ls.size = nL) (hK : va_K D vwCl (tyL cy) s) (hP : SP D cy S H) (hD : ∀ a, S a ≠ none → A0 a) (hA : ∀ q, H0.size ≤ q → A0 q) (hS : va_S A0 H0 H locs) (hE : NWA s) (hk : Cond.methodLink own index yX7_init ∈ ALLW) (hR : rm_X7_init.frames + 1 ≤ R.frames ∧ 8 + (1 + 11) + rm_X7_init.locals ≤ R.locals) (h : f_X7_init S szv a0 = some (S1, sz1)) (hz : H.size = szv) (hW : (rest.map fun v => v.category).sum ≤ 8) (hdg : decode cc pc = .ok (.invokespecial index, 3)) (hf : cells + 5 ≤ R.cells ∧ slots + 1992 ≤ R.slots)
    (kk : ∀ (H1 : Heap) (locs1 : List Loc), H1.size = sz1 → SP D cy S1 H1 → (∀ a, S1 a ≠ none → A0 a) → va_S A0 H0 H1 locs1 → W p l e R s m args below meth c H1 locs1 (cells + 5) (slots + 1992) Q (F0 m (pc + 3) ls (rest))) : W p l e R s m args below meth c H locs cells slots Q (F0 m pc ls (.ref a0 :: rest)) := by
  subst hz
  exact k_I (As := []) (host := "") hF hsz (m_X7_init l D cy H.size S a0 S1 sz1 h) (cwI_of (n := 0) hF.2.2.2.2 hk wd_884 wd_75 wd_885 rfl rfl rfl (by decide +kernel) hR) rfl hK hP hD hA hS hE hW rfl hdg hf kk
/-- VowBlocksModel.within(III)Z -/
def f_X7_within (a0 : Int32) (a1 : Int32) (a2 : Int32) : Option (Int32) :=
  (
    if a0 < a1 then
      some 0
    else
      if a2 < a0 then
        some 0
      else
        some 1
  : Option (Int32)).bind fun t1 =>
  (zz t1).bind fun _ =>
  some t1
abbrev rm_X7_within : Room := { frames := 0, cells := 0, slots := 0, locals := 0 }
set_option maxHeartbeats 4000000 in
set_option maxRecDepth 100000 in
theorem m_X7_within (l : Launch) (D : va_G) (cy : Nat → ClassId) (S : St) (a0 : Int32) (a1 : Int32) (a2 : Int32) (r : Int32) (h : f_X7_within a0 a1 a2 = some r) : Met l yX7_within (wsA yX7_within cX7_within 3 (some .boolean)) rm_X7_within (va_Pc [.int a0, .int a1, .int a2] (PS D cy S)) (va_Qi (fun r' (_ : Unit) => r' = r) (fun _ _ => True) noA) 0 0 noA := by
  refine Met.ofW (cc := cX7_within) (maxL := 3) (ret := (some .boolean)) (by decide) rfl ?_
  intro p e s m args below meth c s₁ B hml hv
  obtain ⟨rfl, hP, hK⟩ := hv
  have hx := B.exec
  have hb := B.bytes
  have hr := B.returns
  have hts9 := atoms_spec (ws := wsA yX7_within cX7_within 3 (some .boolean)) B.pre
  have hts : ∀ w ∈ ALLW, w.before _ s = true := fun w h => hts9 w (List.mem_cons_of_mem _ h)
  have hown : s.vm.findClass RX7 = some m.cls := findClass_of_methodNamed B.named
  have hlocks := B.notSynchronized
  have hS : va_S noA s.heap s.heap [] := va_S.rf
  have hl := lv_entry [.int a0, .int a1, .int a2] (n := 3) (Nat.le_of_ble_eq_true rfl)
  rw [lg_entry_eq]
  generalize (lg_sl [.int a0, .int a1, .int a2] ++ List.replicate (3 - (lg_sl [.int a0, .int a1, .int a2]).length) Slot.unset).toArray = ls at hl ⊢
  have hl : lv_has ls 3 [(0, .int a0), (1, .int a1), (2, .int a2)] := hl
  rw [f_X7_within] at h
  refine lv_iload_n hx hb dX7_within_0 rfl (lv_at hl 0 rfl) ?_
  refine lv_iload_n hx hb dX7_within_1 rfl (lv_at hl 1 rfl) ?_
  replace h := bd h
  obtain ⟨t1, ht, h⟩ := h
  have K1 : ∀ (H : Heap) (locs : List Loc) (ls : Array Slot), SP D cy S H → va_S noA s.heap H locs → lv_has ls 3 [] → W p l e rm_X7_within s m ([.int a0, .int a1, .int a2] : List Value).toArray below meth c H locs 0 0 (MQ below (va_Qi (fun r' (_ : Unit) => r' = r) (fun _ _ => True) noA) ([.int a0, .int a1, .int a2] : List Value).toArray s 0 0 noA) (F0 m 15 ls [.int t1]) := by
    intro H locs ls hP hS hl
    replace h := bd h
    obtain ⟨_, q4, h⟩ := h
    cases h
    exact e_zp hx hb hlocks (zz_spec q4) hr hS (Nat.le_of_ble_eq_true rfl) (Nat.le_of_ble_eq_true rfl) dX7_within_15
  replace h := ht
  refine lv_icmp_lt (tgt := 14) hx hb dX7_within_2 (by decide) (fun c2 => ?_) (fun c2 => ?_)
  · replace h := ifp c2 h
    refine lv_iconst (v := 0) hx hb dX7_within_14 (by decide) ?_
    cases h
    exact K1 _ _ _ hP hS (lv_sub hl [] rfl)
  · replace h := ifn c2 h
    refine lv_iload_n hx hb dX7_within_5 rfl (lv_at hl 0 rfl) ?_
    refine lv_iload_n hx hb dX7_within_6 rfl (lv_at hl 2 rfl) ?_
    refine lv_icmp_gt (tgt := 14) hx hb dX7_within_7 (by decide) (fun c3 => ?_) (fun c3 => ?_)
    · replace h := ifp c3 h
      refine lv_iconst (v := 0) hx hb dX7_within_14 (by decide) ?_
      cases h
      exact K1 _ _ _ hP hS (lv_sub hl [] rfl)
    · replace h := ifn c3 h
      refine lv_iconst (v := 1) hx hb dX7_within_10 (by decide) ?_
      refine lv_goto (tgt := 15) hx hb dX7_within_11 (by decide) ?_
      cases h
      exact K1 _ _ _ hP hS (lv_sub hl [] rfl)
set_option maxRecDepth 100000 in
theorem c_X7_within {p : Program} {l : Launch} {e : Env} {R : Room} {s : State} {m : MethodId} {args : Array Value} {below : List Frame} {meth : Method} {c : Code} {H : Heap} {locs : List Loc} {cells slots : Nat} {Q : State → Prop} {cc : ByteArray} {pc index nL : Nat} {ls : Array Slot} {rest : List Value} {D : va_G} {cy : Nat → ClassId} {A0 : Nat → Prop} {S : St} {H0 : Heap} {own : String} {a0 : Int32} {a1 : Int32} {a2 : Int32} {r : Int32}  (hF : CallFix p m c cc nL s args ALLW own) (hsz : ls.size = nL) (hK : va_K D vwCl (tyL cy) s) (hP : SP D cy S H) (hS : va_S A0 H0 H locs) (hk : Cond.methodLink own index yX7_within ∈ ALLW) (hR : rm_X7_within.frames + 1 ≤ R.frames ∧ 8 + (3 + 11) + rm_X7_within.locals ≤ R.locals) (h : f_X7_within a0 a1 a2 = some r) (hW : (rest.map fun v => v.category).sum ≤ 8) (hdg : decode cc pc = .ok (.invokestatic index, 3)) (hf : cells + 0 ≤ R.cells ∧ slots + 0 ≤ R.slots)
    (kk : ∀ (H1 : Heap) (locs1 : List Loc), SP D cy S H1 → va_S A0 H0 H1 locs1 → W p l e R s m args below meth c H1 locs1 (cells + 0) (slots + 0) Q (F0 m (pc + 3) ls (.int r :: rest))) : W p l e R s m args below meth c H locs cells slots Q (F0 m pc ls (.int a2 :: .int a1 :: .int a0 :: rest)) := by
  exact k_iSp (As := [.int a0, .int a1, .int a2]) hF hsz (m_X7_within l D cy S a0 a1 a2 r h) (cwS_of (n := 3) hF.2.2.2.2 hk wd_939 wd_75 wd_940 rfl rfl (by decide +kernel) hR) rfl hK hP hS hW rfl hdg hf kk
/-- VowBlocksModel.isValue(I)Z -/
def f_X7_isValue (a0 : Int32) : Option (Int32) :=
  (f_X7_within a0 0 255).bind fun x2 =>
  (zz x2).bind fun _ =>
  some x2
abbrev rm_X7_isValue : Room := { frames := 1, cells := 0, slots := 0, locals := 22 }
set_option maxHeartbeats 4000000 in
set_option maxRecDepth 100000 in
theorem m_X7_isValue (l : Launch) (D : va_G) (cy : Nat → ClassId) (S : St) (a0 : Int32) (r : Int32) (h : f_X7_isValue a0 = some r) : Met l yX7_isValue (wsA yX7_isValue cX7_isValue 1 (some .boolean)) rm_X7_isValue (va_Pc [.int a0] (PS D cy S)) (va_Qi (fun r' (_ : Unit) => r' = r) (fun _ _ => True) noA) 0 0 noA := by
  refine Met.ofW (cc := cX7_isValue) (maxL := 1) (ret := (some .boolean)) (by decide) rfl ?_
  intro p e s m args below meth c s₁ B hml hv
  obtain ⟨rfl, hP, hK⟩ := hv
  have hx := B.exec
  have hb := B.bytes
  have hr := B.returns
  have hts9 := atoms_spec (ws := wsA yX7_isValue cX7_isValue 1 (some .boolean)) B.pre
  have hts : ∀ w ∈ ALLW, w.before _ s = true := fun w h => hts9 w (List.mem_cons_of_mem _ h)
  have hown : s.vm.findClass RX7 = some m.cls := findClass_of_methodNamed B.named
  have hlocks := B.notSynchronized
  have hS : va_S noA s.heap s.heap [] := va_S.rf
  have hl := lv_entry [.int a0] (n := 1) (Nat.le_of_ble_eq_true rfl)
  rw [lg_entry_eq]
  generalize (lg_sl [.int a0] ++ List.replicate (1 - (lg_sl [.int a0]).length) Slot.unset).toArray = ls at hl ⊢
  have hl : lv_has ls 1 [(0, .int a0)] := hl
  rw [f_X7_isValue] at h
  refine lv_iload_n hx hb dX7_isValue_0 rfl (lv_at hl 0 rfl) ?_
  refine lv_iconst (v := 0) hx hb dX7_isValue_1 (by decide) ?_
  refine lv_sipush (v := 255) hx hb dX7_isValue_2 (by decide) ?_
  replace h := bd h
  obtain ⟨x2, q1, h⟩ := h
  refine c_X7_within ⟨hx, hb, hml, hown, hts⟩ hl.1 hK hP hS wd_938 ⟨(Nat.le_of_ble_eq_true rfl), (Nat.le_of_ble_eq_true rfl)⟩ q1 (Nat.le_of_ble_eq_true rfl) dX7_isValue_5 ⟨(Nat.le_of_ble_eq_true rfl), (Nat.le_of_ble_eq_true rfl)⟩ (fun H locs hP hS => ?_)
  replace h := bd h
  obtain ⟨_, q3, h⟩ := h
  cases h
  exact e_zp hx hb hlocks (zz_spec q3) hr hS (Nat.le_of_ble_eq_true rfl) (Nat.le_of_ble_eq_true rfl) dX7_isValue_8
set_option maxRecDepth 100000 in
theorem c_X7_isValue {p : Program} {l : Launch} {e : Env} {R : Room} {s : State} {m : MethodId} {args : Array Value} {below : List Frame} {meth : Method} {c : Code} {H : Heap} {locs : List Loc} {cells slots : Nat} {Q : State → Prop} {cc : ByteArray} {pc index nL : Nat} {ls : Array Slot} {rest : List Value} {D : va_G} {cy : Nat → ClassId} {A0 : Nat → Prop} {S : St} {H0 : Heap} {own : String} {a0 : Int32} {r : Int32}  (hF : CallFix p m c cc nL s args ALLW own) (hsz : ls.size = nL) (hK : va_K D vwCl (tyL cy) s) (hP : SP D cy S H) (hS : va_S A0 H0 H locs) (hk : Cond.methodLink own index yX7_isValue ∈ ALLW) (hR : rm_X7_isValue.frames + 1 ≤ R.frames ∧ 8 + (1 + 11) + rm_X7_isValue.locals ≤ R.locals) (h : f_X7_isValue a0 = some r) (hW : (rest.map fun v => v.category).sum ≤ 8) (hdg : decode cc pc = .ok (.invokestatic index, 3)) (hf : cells + 0 ≤ R.cells ∧ slots + 0 ≤ R.slots)
    (kk : ∀ (H1 : Heap) (locs1 : List Loc), SP D cy S H1 → va_S A0 H0 H1 locs1 → W p l e R s m args below meth c H1 locs1 (cells + 0) (slots + 0) Q (F0 m (pc + 3) ls (.int r :: rest))) : W p l e R s m args below meth c H locs cells slots Q (F0 m pc ls (.int a0 :: rest)) := by
  exact k_iSp (As := [.int a0]) hF hsz (m_X7_isValue l D cy S a0 r h) (cwS_of (n := 1) hF.2.2.2.2 hk wd_936 wd_75 wd_937 rfl rfl (by decide +kernel) hR) rfl hK hP hS hW rfl hdg hf kk
/-- VowBlocksModel.save()V -/
def f_X7_save_L13 (y13_0 : Nat) : Nat → St → Int32 →  Option (St)
  | 0, _, _ => none
  | fu + 1, S13_, y13_1 =>
    if 1560 ≤ y13_1 then
      some S13_
    else
      (gR S13_ y13_0 6 2).bind fun x8 =>
      (gR S13_ y13_0 6 2).bind fun x10 =>
      (aI S13_ x10 y13_1).bind fun x12 =>
      (sI S13_ x8 (y13_1 - 260) x12).bind fun Z14 =>
      f_X7_save_L13 y13_0 fu Z14 (y13_1 + 1)
def f_X7_save_L54 (y54_0 : Nat) : Nat → St → Int32 →  Option (St)
  | 0, _, _ => none
  | fu + 1, S54_, y54_1 =>
    if 260 ≤ y54_1 then
      some S54_
    else
      (gR S54_ y54_0 6 2).bind fun x24 =>
      (gI S54_ y54_0 6 1).bind fun x26 =>
      (gR S54_ y54_0 6 0).bind fun x28 =>
      (aI S54_ x28 y54_1).bind fun x30 =>
      (sI S54_ x24 ((260 * x26) + y54_1) x30).bind fun Z32 =>
      f_X7_save_L54 y54_0 fu Z32 (y54_1 + 1)
def f_X7_save (S : St) (a0 : Nat) : Option (St) :=
  (gI S a0 6 1).bind fun x1 =>
  (
    if x1 = 6 then
      (f_X7_save_L13 a0 FU S 260).bind fun z5 =>
      (gI z5 a0 6 1).bind fun x17 =>
      (pI z5 a0 6 1 (x17 - 1)).bind fun Z19 =>
      some Z19
    else
      some S
  : Option (St)).bind fun t3 =>
  (f_X7_save_L54 a0 FU t3 0).bind fun z21 =>
  (gI z21 a0 6 1).bind fun x35 =>
  (pI z21 a0 6 1 (x35 + 1)).bind fun Z37 =>
  some Z37
abbrev rm_X7_save : Room := { frames := 0, cells := 0, slots := 0, locals := 0 }
set_option maxHeartbeats 4000000 in
set_option maxRecDepth 100000 in
theorem m_X7_save (l : Launch) (D : va_G) (cy : Nat → ClassId) (sz : Nat) (S : St) (a0 : Nat) (S1 : St) (h : f_X7_save S a0 = some S1) : Met l yX7_save (wsA yX7_save cX7_save 2 none) rm_X7_save (va_Pc [.ref a0] (PN D cy S sz)) (va_Qv (fun _ : Unit => True) (fun _ t => PoS D cy S1 (dm S sz) t) (dm S sz)) 0 0 (dm S sz) := by
  refine Met.ofW (cc := cX7_save) (maxL := 2) (ret := none) (by decide) rfl ?_
  intro p e s m args below meth c s₁ B hml hv
  obtain ⟨rfl, hsz, hP, hK⟩ := hv
  have hx := B.exec
  have hb := B.bytes
  have hr := B.returns
  have hts9 := atoms_spec (ws := wsA yX7_save cX7_save 2 none) B.pre
  have hts : ∀ w ∈ ALLW, w.before _ s = true := fun w h => hts9 w (List.mem_cons_of_mem _ h)
  have hown : s.vm.findClass RX7 = some m.cls := findClass_of_methodNamed B.named
  have hlocks := B.notSynchronized
  subst hsz
  have hD : ∀ a, S a ≠ none → dm S s.heap.size a := fun a h => Or.inl h
  have hA : ∀ q : Nat, s.heap.size ≤ q → dm S s.heap.size q := fun q h => Or.inr h
  have hS : va_S (dm S s.heap.size) s.heap s.heap [] := va_S.rf
  have hl := lv_entry [.ref a0] (n := 2) (Nat.le_of_ble_eq_true rfl)
  rw [lg_entry_eq]
  generalize (lg_sl [.ref a0] ++ List.replicate (2 - (lg_sl [.ref a0]).length) Slot.unset).toArray = ls at hl ⊢
  have hl : lv_has ls 2 [(0, .ref a0)] := hl
  rw [f_X7_save] at h
  refine lv_aload_n hx hb dX7_save_0 rfl (lv_at hl 0 rfl) ?_
  replace h := bd h
  obtain ⟨x1, q2, h⟩ := h
  refine fg_6_1 hx hb hts hown hK hP wd_888 q2 dX7_save_1 ?_
  refine lv_bipush (v := 6) hx hb dX7_save_4 (by decide) ?_
  replace h := bd h
  obtain ⟨t3, ht, h⟩ := h
  have K3 : ∀ (H : Heap) (locs : List Loc) (ls : Array Slot), SP D cy t3 H → (∀ a, t3 a ≠ none → (dm S s.heap.size) a) → va_S (dm S s.heap.size) s.heap H locs → lv_has ls 2 [(0, .ref a0)] → W p l e rm_X7_save s m ([.ref a0] : List Value).toArray below meth c H locs 0 0 (MQ below (va_Qv (fun _ : Unit => True) (fun _ t => PoS D cy S1 (dm S s.heap.size) t) (dm S s.heap.size)) ([.ref a0] : List Value).toArray s 0 0 (dm S s.heap.size)) (F0 m 52 ls []) := by
    intro H locs ls hP hD hS hl
    refine lv_iconst (v := 0) hx hb dX7_save_52 (by decide) ?_
    refine lv_istore_n (lv' := [(1, .int 0), (0, .ref a0)]) hx hb dX7_save_53 rfl hl (by decide) rfl (fun ls hl => ?_)
    have L54 : ∀ (y54_0 : Nat) (fu : Nat) (S54_ : St) (y54_1 : Int32) (res : St), f_X7_save_L54 y54_0 fu S54_ y54_1 = some res → ∀ (H : Heap) (locs : List Loc) (ls : Array Slot), SP D cy S54_ H → (∀ a, S54_ a ≠ none → (dm S s.heap.size) a) → va_S (dm S s.heap.size) s.heap H locs → lv_has ls 2 [(0, .ref y54_0), (1, .int y54_1)] → (∀ (H : Heap) (locs : List Loc) (ls : Array Slot), SP D cy res H → (∀ a, res a ≠ none → (dm S s.heap.size) a) → va_S (dm S s.heap.size) s.heap H locs → lv_has ls 2 [(0, .ref y54_0)] → W p l e rm_X7_save s m ([.ref a0] : List Value).toArray below meth c H locs 0 0 (MQ below (va_Qv (fun _ : Unit => True) (fun _ t => PoS D cy S1 (dm S s.heap.size) t) (dm S s.heap.size)) ([.ref a0] : List Value).toArray s 0 0 (dm S s.heap.size)) (F0 m 88 ls [])) → W p l e rm_X7_save s m ([.ref a0] : List Value).toArray below meth c H locs 0 0 (MQ below (va_Qv (fun _ : Unit => True) (fun _ t => PoS D cy S1 (dm S s.heap.size) t) (dm S s.heap.size)) ([.ref a0] : List Value).toArray s 0 0 (dm S s.heap.size)) (F0 m 54 ls []) := by
      intro y54_0 fu
      induction fu with
      | zero =>
        intro S54_ y54_1 res h
        rw [f_X7_save_L54] at h
        cases h
      | succ fu ih =>
        intro S54_ y54_1 res h H locs ls hP hD hS hl hexit
        rw [f_X7_save_L54] at h
        refine lv_iload_n hx hb dX7_save_54 rfl (lv_at hl 1 rfl) ?_
        refine lv_sipush (v := 260) hx hb dX7_save_55 (by decide) ?_
        refine lv_icmp_ge (tgt := 88) hx hb dX7_save_58 (by decide) (fun c23 => ?_) (fun c23 => ?_)
        · replace h := ifp c23 h
          cases h
          exact hexit _ _ _ hP hD hS (lv_sub hl [0] rfl)
        · replace h := ifn c23 h
          refine lv_aload_n hx hb dX7_save_61 rfl (lv_at hl 0 rfl) ?_
          replace h := bd h
          obtain ⟨x24, q25, h⟩ := h
          refine fg_6_2 hx hb hts hown hK hP wd_889 q25 dX7_save_62 ?_
          refine lv_sipush (v := 260) hx hb dX7_save_65 (by decide) ?_
          refine lv_aload_n hx hb dX7_save_68 rfl (lv_at hl 0 rfl) ?_
          replace h := bd h
          obtain ⟨x26, q27, h⟩ := h
          refine fg_6_1 hx hb hts hown hK hP wd_888 q27 dX7_save_69 ?_
          refine lv_imul hx hb dX7_save_72 ?_
          refine lv_iload_n hx hb dX7_save_73 rfl (lv_at hl 1 rfl) ?_
          refine lv_iadd hx hb dX7_save_74 ?_
          refine lv_aload_n hx hb dX7_save_75 rfl (lv_at hl 0 rfl) ?_
          replace h := bd h
          obtain ⟨x28, q29, h⟩ := h
          refine fg_6_0 hx hb hts hown hK hP wd_887 q29 dX7_save_76 ?_
          refine lv_iload_n hx hb dX7_save_79 rfl (lv_at hl 1 rfl) ?_
          replace h := bd h
          obtain ⟨x30, q31, h⟩ := h
          refine r_aI hx hb hK hP q31 dX7_save_80 ?_
          replace h := bd h
          obtain ⟨Z32, q33, h⟩ := h
          refine r_sI hx hb hK hP hD hS q33 dX7_save_81 (fun H locs hz9 hP hD hS => ?_)
          refine lv_iinc (v := (y54_1 + 1)) (lv' := [(1, .int (y54_1 + 1)), (0, .ref y54_0)]) hx hb dX7_save_82 hl (k := 1) rfl rfl (by decide) rfl (fun ls hl => ?_)
          refine lv_goto (tgt := 54) hx hb dX7_save_85 (by decide) ?_
          exact ih Z32 (y54_1 + 1) _ h _ _ _ hP hD hS (lv_sub hl [1, 0] rfl) hexit
    replace h := bd h
    obtain ⟨z21, q34, h⟩ := h
    refine L54 a0 FU t3 0 z21 q34 _ _ _ hP hD hS (lv_sub hl [1, 0] rfl) (fun H locs ls hP hD hS hl => ?_)
    refine lv_aload_n hx hb dX7_save_88 rfl (lv_at hl 0 rfl) ?_
    refine lv_dup hx hb dX7_save_89 rfl ?_
    replace h := bd h
    obtain ⟨x35, q36, h⟩ := h
    refine fg_6_1 hx hb hts hown hK hP wd_888 q36 dX7_save_90 ?_
    refine lv_iconst (v := 1) hx hb dX7_save_93 (by decide) ?_
    refine lv_iadd hx hb dX7_save_94 ?_
    replace h := bd h
    obtain ⟨Z37, q38, h⟩ := h
    refine fp_6_1 hx hb hts hown hK hP hD hS wd_888 q38 dX7_save_95 (fun H locs hz9 hP hD hS => ?_)
    cases h
    exact e_vm hx hb hlocks hr hP hD hS (Nat.le_of_ble_eq_true rfl) (Nat.le_of_ble_eq_true rfl) dX7_save_98
  replace h := ht
  refine lv_icmp_ne (tgt := 52) hx hb dX7_save_6 (by decide) (fun c4 => ?_) (fun c4 => ?_)
  · replace h := ifn c4 h
    cases h
    exact K3 _ _ _ hP hD hS (lv_sub hl [0] rfl)
  · replace h := ifp c4 h
    refine lv_sipush (v := 260) hx hb dX7_save_9 (by decide) ?_
    refine lv_istore_n (lv' := [(1, .int 260), (0, .ref a0)]) hx hb dX7_save_12 rfl hl (by decide) rfl (fun ls hl => ?_)
    have L13 : ∀ (y13_0 : Nat) (fu : Nat) (S13_ : St) (y13_1 : Int32) (res : St), f_X7_save_L13 y13_0 fu S13_ y13_1 = some res → ∀ (H : Heap) (locs : List Loc) (ls : Array Slot), SP D cy S13_ H → (∀ a, S13_ a ≠ none → (dm S s.heap.size) a) → va_S (dm S s.heap.size) s.heap H locs → lv_has ls 2 [(0, .ref y13_0), (1, .int y13_1)] → (∀ (H : Heap) (locs : List Loc) (ls : Array Slot), SP D cy res H → (∀ a, res a ≠ none → (dm S s.heap.size) a) → va_S (dm S s.heap.size) s.heap H locs → lv_has ls 2 [(0, .ref y13_0)] → W p l e rm_X7_save s m ([.ref a0] : List Value).toArray below meth c H locs 0 0 (MQ below (va_Qv (fun _ : Unit => True) (fun _ t => PoS D cy S1 (dm S s.heap.size) t) (dm S s.heap.size)) ([.ref a0] : List Value).toArray s 0 0 (dm S s.heap.size)) (F0 m 42 ls [])) → W p l e rm_X7_save s m ([.ref a0] : List Value).toArray below meth c H locs 0 0 (MQ below (va_Qv (fun _ : Unit => True) (fun _ t => PoS D cy S1 (dm S s.heap.size) t) (dm S s.heap.size)) ([.ref a0] : List Value).toArray s 0 0 (dm S s.heap.size)) (F0 m 13 ls []) := by
      intro y13_0 fu
      induction fu with
      | zero =>
        intro S13_ y13_1 res h
        rw [f_X7_save_L13] at h
        cases h
      | succ fu ih =>
        intro S13_ y13_1 res h H locs ls hP hD hS hl hexit
        rw [f_X7_save_L13] at h
        refine lv_iload_n hx hb dX7_save_13 rfl (lv_at hl 1 rfl) ?_
        refine lv_sipush (v := 1560) hx hb dX7_save_14 (by decide) ?_
        refine lv_icmp_ge (tgt := 42) hx hb dX7_save_17 (by decide) (fun c7 => ?_) (fun c7 => ?_)
        · replace h := ifp c7 h
          cases h
          exact hexit _ _ _ hP hD hS (lv_sub hl [0] rfl)
        · replace h := ifn c7 h
          refine lv_aload_n hx hb dX7_save_20 rfl (lv_at hl 0 rfl) ?_
          replace h := bd h
          obtain ⟨x8, q9, h⟩ := h
          refine fg_6_2 hx hb hts hown hK hP wd_889 q9 dX7_save_21 ?_
          refine lv_iload_n hx hb dX7_save_24 rfl (lv_at hl 1 rfl) ?_
          refine lv_sipush (v := 260) hx hb dX7_save_25 (by decide) ?_
          refine lv_isub hx hb dX7_save_28 ?_
          refine lv_aload_n hx hb dX7_save_29 rfl (lv_at hl 0 rfl) ?_
          replace h := bd h
          obtain ⟨x10, q11, h⟩ := h
          refine fg_6_2 hx hb hts hown hK hP wd_889 q11 dX7_save_30 ?_
          refine lv_iload_n hx hb dX7_save_33 rfl (lv_at hl 1 rfl) ?_
          replace h := bd h
          obtain ⟨x12, q13, h⟩ := h
          refine r_aI hx hb hK hP q13 dX7_save_34 ?_
          replace h := bd h
          obtain ⟨Z14, q15, h⟩ := h
          refine r_sI hx hb hK hP hD hS q15 dX7_save_35 (fun H locs hz9 hP hD hS => ?_)
          refine lv_iinc (v := (y13_1 + 1)) (lv' := [(1, .int (y13_1 + 1)), (0, .ref y13_0)]) hx hb dX7_save_36 hl (k := 1) rfl rfl (by decide) rfl (fun ls hl => ?_)
          refine lv_goto (tgt := 13) hx hb dX7_save_39 (by decide) ?_
          exact ih Z14 (y13_1 + 1) _ h _ _ _ hP hD hS (lv_sub hl [1, 0] rfl) hexit
    replace h := bd h
    obtain ⟨z5, q16, h⟩ := h
    refine L13 a0 FU S 260 z5 q16 _ _ _ hP hD hS (lv_sub hl [1, 0] rfl) (fun H locs ls hP hD hS hl => ?_)
    refine lv_aload_n hx hb dX7_save_42 rfl (lv_at hl 0 rfl) ?_
    refine lv_dup hx hb dX7_save_43 rfl ?_
    replace h := bd h
    obtain ⟨x17, q18, h⟩ := h
    refine fg_6_1 hx hb hts hown hK hP wd_888 q18 dX7_save_44 ?_
    refine lv_iconst (v := 1) hx hb dX7_save_47 (by decide) ?_
    refine lv_isub hx hb dX7_save_48 ?_
    replace h := bd h
    obtain ⟨Z19, q20, h⟩ := h
    refine fp_6_1 hx hb hts hown hK hP hD hS wd_888 q20 dX7_save_49 (fun H locs hz9 hP hD hS => ?_)
    cases h
    exact K3 _ _ _ hP hD hS (lv_sub hl [0] rfl)
set_option maxRecDepth 100000 in
theorem c_X7_save {p : Program} {l : Launch} {e : Env} {R : Room} {s : State} {m : MethodId} {args : Array Value} {below : List Frame} {meth : Method} {c : Code} {H : Heap} {locs : List Loc} {cells slots : Nat} {Q : State → Prop} {cc : ByteArray} {pc index nL : Nat} {ls : Array Slot} {rest : List Value} {D : va_G} {cy : Nat → ClassId} {A0 : Nat → Prop} {S : St} {H0 : Heap} {own : String} {u : Unit} {a0 : Nat} {S1 : St}  (hF : CallFix p m c cc nL s args ALLW own) (hsz : ls.size = nL) (hK : va_K D vwCl (tyL cy) s) (hP : SP D cy S H) (hD : ∀ a, S a ≠ none → A0 a) (hA : ∀ q, H0.size ≤ q → A0 q) (hS : va_S A0 H0 H locs) (hk : Cond.methodLink own index yX7_save ∈ ALLW) (hR : rm_X7_save.frames + 1 ≤ R.frames ∧ 8 + (2 + 11) + rm_X7_save.locals ≤ R.locals) (h : f_X7_save S a0 = some S1) (hc : oO S a0 6 = some u) (hW : (rest.map fun v => v.category).sum ≤ 8) (hdg : decode cc pc = .ok (.invokevirtual index, 3)) (hf : cells + 0 ≤ R.cells ∧ slots + 0 ≤ R.slots)
    (kk : ∀ (H1 : Heap) (locs1 : List Loc), SP D cy S1 H1 → (∀ a, S1 a ≠ none → A0 a) → va_S A0 H0 H1 locs1 → W p l e R s m args below meth c H1 locs1 (cells + 0) (slots + 0) Q (F0 m (pc + 3) ls (rest))) : W p l e R s m args below meth c H locs cells slots Q (F0 m pc ls (.ref a0 :: rest)) := by
  exact k_vVm (As := []) hF hsz (m_X7_save l D cy H.size S a0 S1 h) (cwV_of (n := 0) hF.2.2.2.2 hk wd_943 wd_19 wd_75 wd_944 rfl rfl (by decide +kernel) hR) rfl hK hP hD hA hS (ci := 6) hc rfl hW rfl hdg hf kk
/-- VowBlocksModel.setOf(III)V -/
def f_X7_setOf (S : St) (a0 : Nat) (a1 : Int32) (a2 : Int32) (a3 : Int32) : Option (St) :=
  (gR S a0 6 0).bind fun x1 =>
  (sI S x1 ((4 + (32 * a1)) + a2) a3).bind fun Z3 =>
  some Z3
abbrev rm_X7_setOf : Room := { frames := 0, cells := 0, slots := 0, locals := 0 }
set_option maxHeartbeats 4000000 in
set_option maxRecDepth 100000 in
theorem m_X7_setOf (l : Launch) (D : va_G) (cy : Nat → ClassId) (sz : Nat) (S : St) (a0 : Nat) (a1 : Int32) (a2 : Int32) (a3 : Int32) (S1 : St) (h : f_X7_setOf S a0 a1 a2 a3 = some S1) : Met l yX7_setOf (wsA yX7_setOf cX7_setOf 4 none) rm_X7_setOf (va_Pc [.ref a0, .int a1, .int a2, .int a3] (PN D cy S sz)) (va_Qv (fun _ : Unit => True) (fun _ t => PoS D cy S1 (dm S sz) t) (dm S sz)) 0 0 (dm S sz) := by
  refine Met.ofW (cc := cX7_setOf) (maxL := 4) (ret := none) (by decide) rfl ?_
  intro p e s m args below meth c s₁ B hml hv
  obtain ⟨rfl, hsz, hP, hK⟩ := hv
  have hx := B.exec
  have hb := B.bytes
  have hr := B.returns
  have hts9 := atoms_spec (ws := wsA yX7_setOf cX7_setOf 4 none) B.pre
  have hts : ∀ w ∈ ALLW, w.before _ s = true := fun w h => hts9 w (List.mem_cons_of_mem _ h)
  have hown : s.vm.findClass RX7 = some m.cls := findClass_of_methodNamed B.named
  have hlocks := B.notSynchronized
  subst hsz
  have hD : ∀ a, S a ≠ none → dm S s.heap.size a := fun a h => Or.inl h
  have hA : ∀ q : Nat, s.heap.size ≤ q → dm S s.heap.size q := fun q h => Or.inr h
  have hS : va_S (dm S s.heap.size) s.heap s.heap [] := va_S.rf
  have hl := lv_entry [.ref a0, .int a1, .int a2, .int a3] (n := 4) (Nat.le_of_ble_eq_true rfl)
  rw [lg_entry_eq]
  generalize (lg_sl [.ref a0, .int a1, .int a2, .int a3] ++ List.replicate (4 - (lg_sl [.ref a0, .int a1, .int a2, .int a3]).length) Slot.unset).toArray = ls at hl ⊢
  have hl : lv_has ls 4 [(0, .ref a0), (1, .int a1), (2, .int a2), (3, .int a3)] := hl
  rw [f_X7_setOf] at h
  refine lv_aload_n hx hb dX7_setOf_0 rfl (lv_at hl 0 rfl) ?_
  replace h := bd h
  obtain ⟨x1, q2, h⟩ := h
  refine fg_6_0 hx hb hts hown hK hP wd_887 q2 dX7_setOf_1 ?_
  refine lv_iconst (v := 4) hx hb dX7_setOf_4 (by decide) ?_
  refine lv_bipush (v := 32) hx hb dX7_setOf_5 (by decide) ?_
  refine lv_iload_n hx hb dX7_setOf_7 rfl (lv_at hl 1 rfl) ?_
  refine lv_imul hx hb dX7_setOf_8 ?_
  refine lv_iadd hx hb dX7_setOf_9 ?_
  refine lv_iload_n hx hb dX7_setOf_10 rfl (lv_at hl 2 rfl) ?_
  refine lv_iadd hx hb dX7_setOf_11 ?_
  refine lv_iload_n hx hb dX7_setOf_12 rfl (lv_at hl 3 rfl) ?_
  replace h := bd h
  obtain ⟨Z3, q4, h⟩ := h
  refine r_sI hx hb hK hP hD hS q4 dX7_setOf_13 (fun H locs hz9 hP hD hS => ?_)
  cases h
  exact e_vm hx hb hlocks hr hP hD hS (Nat.le_of_ble_eq_true rfl) (Nat.le_of_ble_eq_true rfl) dX7_setOf_14
set_option maxRecDepth 100000 in
theorem c_X7_setOf {p : Program} {l : Launch} {e : Env} {R : Room} {s : State} {m : MethodId} {args : Array Value} {below : List Frame} {meth : Method} {c : Code} {H : Heap} {locs : List Loc} {cells slots : Nat} {Q : State → Prop} {cc : ByteArray} {pc index nL : Nat} {ls : Array Slot} {rest : List Value} {D : va_G} {cy : Nat → ClassId} {A0 : Nat → Prop} {S : St} {H0 : Heap} {own : String} {u : Unit} {a0 : Nat} {a1 : Int32} {a2 : Int32} {a3 : Int32} {S1 : St}  (hF : CallFix p m c cc nL s args ALLW own) (hsz : ls.size = nL) (hK : va_K D vwCl (tyL cy) s) (hP : SP D cy S H) (hD : ∀ a, S a ≠ none → A0 a) (hA : ∀ q, H0.size ≤ q → A0 q) (hS : va_S A0 H0 H locs) (hk : Cond.methodLink own index yX7_setOf ∈ ALLW) (hR : rm_X7_setOf.frames + 1 ≤ R.frames ∧ 8 + (4 + 11) + rm_X7_setOf.locals ≤ R.locals) (h : f_X7_setOf S a0 a1 a2 a3 = some S1) (hc : oO S a0 6 = some u) (hW : (rest.map fun v => v.category).sum ≤ 8) (hdg : decode cc pc = .ok (.invokevirtual index, 3)) (hf : cells + 0 ≤ R.cells ∧ slots + 0 ≤ R.slots)
    (kk : ∀ (H1 : Heap) (locs1 : List Loc), SP D cy S1 H1 → (∀ a, S1 a ≠ none → A0 a) → va_S A0 H0 H1 locs1 → W p l e R s m args below meth c H1 locs1 (cells + 0) (slots + 0) Q (F0 m (pc + 3) ls (rest))) : W p l e R s m args below meth c H locs cells slots Q (F0 m pc ls (.int a3 :: .int a2 :: .int a1 :: .ref a0 :: rest)) := by
  exact k_vVm (As := [.int a1, .int a2, .int a3]) hF hsz (m_X7_setOf l D cy H.size S a0 a1 a2 a3 S1 h) (cwV_of (n := 3) hF.2.2.2.2 hk wd_951 wd_21 wd_75 wd_952 rfl rfl (by decide +kernel) hR) rfl hK hP hD hA hS (ci := 6) hc rfl hW rfl hdg hf kk
/-- VowBlocksModel.begin(I)I -/
def f_X7_begin_L19 (y19_0 : Nat) (y19_1 : Int32) (y19_2 : Int32) : Nat → St → Int32 →  Option (St)
  | 0, _, _ => none
  | fu + 1, S19_, y19_3 =>
    if 32 ≤ y19_3 then
      some S19_
    else
      (oO S19_ y19_0 6).bind fun _ =>
      (f_X7_setOf S19_ y19_0 y19_2 y19_3 0).bind fun z16 =>
      f_X7_begin_L19 y19_0 y19_1 y19_2 fu z16 (y19_3 + 1)
def f_X7_begin (S : St) (a0 : Nat) (a1 : Int32) : Option (Int32 × St) :=
  (gR S a0 6 0).bind fun x1 =>
  (aI S x1 2).bind fun x3 =>
  (gR S a0 6 0).bind fun x5 =>
  (aI S x5 2).bind fun x7 =>
  (sI S x5 2 (x7 + 1)).bind fun Z9 =>
  (f_X7_begin_L19 a0 a1 x3 FU Z9 0).bind fun z11 =>
  (oO z11 a0 6).bind fun _ =>
  (f_X7_setOf z11 a0 x3 0 a1).bind fun z20 =>
  some (x3, z20)
abbrev rm_X7_begin : Room := { frames := 1, cells := 0, slots := 0, locals := 23 }
set_option maxHeartbeats 4000000 in
set_option maxRecDepth 100000 in
theorem m_X7_begin (l : Launch) (D : va_G) (cy : Nat → ClassId) (sz : Nat) (S : St) (a0 : Nat) (a1 : Int32) (r : Int32) (S1 : St) (h : f_X7_begin S a0 a1 = some (r, S1)) : Met l yX7_begin (wsA yX7_begin cX7_begin 4 (some .int)) rm_X7_begin (va_Pc [.ref a0, .int a1] (PN D cy S sz)) (va_Qi (fun r' (_ : Unit) => r' = r) (fun _ t => PoS D cy S1 (dm S sz) t) (dm S sz)) 0 0 (dm S sz) := by
  refine Met.ofW (cc := cX7_begin) (maxL := 4) (ret := (some .int)) (by decide) rfl ?_
  intro p e s m args below meth c s₁ B hml hv
  obtain ⟨rfl, hsz, hP, hK⟩ := hv
  have hx := B.exec
  have hb := B.bytes
  have hr := B.returns
  have hts9 := atoms_spec (ws := wsA yX7_begin cX7_begin 4 (some .int)) B.pre
  have hts : ∀ w ∈ ALLW, w.before _ s = true := fun w h => hts9 w (List.mem_cons_of_mem _ h)
  have hown : s.vm.findClass RX7 = some m.cls := findClass_of_methodNamed B.named
  have hlocks := B.notSynchronized
  subst hsz
  have hD : ∀ a, S a ≠ none → dm S s.heap.size a := fun a h => Or.inl h
  have hA : ∀ q : Nat, s.heap.size ≤ q → dm S s.heap.size q := fun q h => Or.inr h
  have hS : va_S (dm S s.heap.size) s.heap s.heap [] := va_S.rf
  have hl := lv_entry [.ref a0, .int a1] (n := 4) (Nat.le_of_ble_eq_true rfl)
  rw [lg_entry_eq]
  generalize (lg_sl [.ref a0, .int a1] ++ List.replicate (4 - (lg_sl [.ref a0, .int a1]).length) Slot.unset).toArray = ls at hl ⊢
  have hl : lv_has ls 4 [(0, .ref a0), (1, .int a1)] := hl
  rw [f_X7_begin] at h
  refine lv_aload_n hx hb dX7_begin_0 rfl (lv_at hl 0 rfl) ?_
  replace h := bd h
  obtain ⟨x1, q2, h⟩ := h
  refine fg_6_0 hx hb hts hown hK hP wd_887 q2 dX7_begin_1 ?_
  refine lv_iconst (v := 2) hx hb dX7_begin_4 (by decide) ?_
  replace h := bd h
  obtain ⟨x3, q4, h⟩ := h
  refine r_aI hx hb hK hP q4 dX7_begin_5 ?_
  refine lv_istore_n (lv' := [(2, .int x3), (0, .ref a0), (1, .int a1)]) hx hb dX7_begin_6 rfl hl (by decide) rfl (fun ls hl => ?_)
  refine lv_aload_n hx hb dX7_begin_7 rfl (lv_at hl 1 rfl) ?_
  replace h := bd h
  obtain ⟨x5, q6, h⟩ := h
  refine fg_6_0 hx hb hts hown hK hP wd_887 q6 dX7_begin_8 ?_
  refine lv_iconst (v := 2) hx hb dX7_begin_11 (by decide) ?_
  refine lv_dup2_11 hx hb dX7_begin_12 rfl rfl ?_
  replace h := bd h
  obtain ⟨x7, q8, h⟩ := h
  refine r_aI hx hb hK hP q8 dX7_begin_13 ?_
  refine lv_iconst (v := 1) hx hb dX7_begin_14 (by decide) ?_
  refine lv_iadd hx hb dX7_begin_15 ?_
  replace h := bd h
  obtain ⟨Z9, q10, h⟩ := h
  refine r_sI hx hb hK hP hD hS q10 dX7_begin_16 (fun H locs hz9 hP hD hS => ?_)
  refine lv_iconst (v := 0) hx hb dX7_begin_17 (by decide) ?_
  refine lv_istore_n (lv' := [(3, .int 0), (2, .int x3), (0, .ref a0), (1, .int a1)]) hx hb dX7_begin_18 rfl hl (by decide) rfl (fun ls hl => ?_)
  have L19 : ∀ (y19_0 : Nat) (y19_1 : Int32) (y19_2 : Int32) (fu : Nat) (S19_ : St) (y19_3 : Int32) (res : St), f_X7_begin_L19 y19_0 y19_1 y19_2 fu S19_ y19_3 = some res → ∀ (H : Heap) (locs : List Loc) (ls : Array Slot), SP D cy S19_ H → (∀ a, S19_ a ≠ none → (dm S s.heap.size) a) → va_S (dm S s.heap.size) s.heap H locs → lv_has ls 4 [(0, .ref y19_0), (1, .int y19_1), (2, .int y19_2), (3, .int y19_3)] → (∀ (H : Heap) (locs : List Loc) (ls : Array Slot), SP D cy res H → (∀ a, res a ≠ none → (dm S s.heap.size) a) → va_S (dm S s.heap.size) s.heap H locs → lv_has ls 4 [(0, .ref y19_0), (1, .int y19_1), (2, .int y19_2)] → W p l e rm_X7_begin s m ([.ref a0, .int a1] : List Value).toArray below meth c H locs 0 0 (MQ below (va_Qi (fun r' (_ : Unit) => r' = r) (fun _ t => PoS D cy S1 (dm S s.heap.size) t) (dm S s.heap.size)) ([.ref a0, .int a1] : List Value).toArray s 0 0 (dm S s.heap.size)) (F0 m 38 ls [])) → W p l e rm_X7_begin s m ([.ref a0, .int a1] : List Value).toArray below meth c H locs 0 0 (MQ below (va_Qi (fun r' (_ : Unit) => r' = r) (fun _ t => PoS D cy S1 (dm S s.heap.size) t) (dm S s.heap.size)) ([.ref a0, .int a1] : List Value).toArray s 0 0 (dm S s.heap.size)) (F0 m 19 ls []) := by
    intro y19_0 y19_1 y19_2 fu
    induction fu with
    | zero =>
      intro S19_ y19_3 res h
      rw [f_X7_begin_L19] at h
      cases h
    | succ fu ih =>
      intro S19_ y19_3 res h H locs ls hP hD hS hl hexit
      rw [f_X7_begin_L19] at h
      refine lv_iload_n hx hb dX7_begin_19 rfl (lv_at hl 3 rfl) ?_
      refine lv_bipush (v := 32) hx hb dX7_begin_20 (by decide) ?_
      refine lv_icmp_ge (tgt := 38) hx hb dX7_begin_22 (by decide) (fun c13 => ?_) (fun c13 => ?_)
      · replace h := ifp c13 h
        cases h
        exact hexit _ _ _ hP hD hS (lv_sub hl [0, 1, 2] rfl)
      · replace h := ifn c13 h
        refine lv_aload_n hx hb dX7_begin_25 rfl (lv_at hl 0 rfl) ?_
        refine lv_iload_n hx hb dX7_begin_26 rfl (lv_at hl 2 rfl) ?_
        refine lv_iload_n hx hb dX7_begin_27 rfl (lv_at hl 3 rfl) ?_
        refine lv_iconst (v := 0) hx hb dX7_begin_28 (by decide) ?_
        replace h := bd h
        obtain ⟨_, q14, h⟩ := h
        replace h := bd h
        obtain ⟨z16, q15, h⟩ := h
        refine c_X7_setOf ⟨hx, hb, hml, hown, hts⟩ hl.1 hK hP hD hA hS wd_949 ⟨(Nat.le_of_ble_eq_true rfl), (Nat.le_of_ble_eq_true rfl)⟩ q15 q14 (Nat.le_of_ble_eq_true rfl) dX7_begin_29 ⟨(Nat.le_of_ble_eq_true rfl), (Nat.le_of_ble_eq_true rfl)⟩ (fun H locs hP hD hS => ?_)
        refine lv_iinc (v := (y19_3 + 1)) (lv' := [(3, .int (y19_3 + 1)), (0, .ref y19_0), (1, .int y19_1), (2, .int y19_2)]) hx hb dX7_begin_32 hl (k := 3) rfl rfl (by decide) rfl (fun ls hl => ?_)
        refine lv_goto (tgt := 19) hx hb dX7_begin_35 (by decide) ?_
        exact ih z16 (y19_3 + 1) _ h _ _ _ hP hD hS (lv_sub hl [1, 2, 3, 0] rfl) hexit
  replace h := bd h
  obtain ⟨z11, q17, h⟩ := h
  refine L19 a0 a1 x3 FU Z9 0 z11 q17 _ _ _ hP hD hS (lv_sub hl [2, 3, 1, 0] rfl) (fun H locs ls hP hD hS hl => ?_)
  refine lv_aload_n hx hb dX7_begin_38 rfl (lv_at hl 0 rfl) ?_
  refine lv_iload_n hx hb dX7_begin_39 rfl (lv_at hl 2 rfl) ?_
  refine lv_iconst (v := 0) hx hb dX7_begin_40 (by decide) ?_
  refine lv_iload_n hx hb dX7_begin_41 rfl (lv_at hl 1 rfl) ?_
  replace h := bd h
  obtain ⟨_, q18, h⟩ := h
  replace h := bd h
  obtain ⟨z20, q19, h⟩ := h
  refine c_X7_setOf ⟨hx, hb, hml, hown, hts⟩ hl.1 hK hP hD hA hS wd_949 ⟨(Nat.le_of_ble_eq_true rfl), (Nat.le_of_ble_eq_true rfl)⟩ q19 q18 (Nat.le_of_ble_eq_true rfl) dX7_begin_42 ⟨(Nat.le_of_ble_eq_true rfl), (Nat.le_of_ble_eq_true rfl)⟩ (fun H locs hP hD hS => ?_)
  refine lv_iload_n hx hb dX7_begin_45 rfl (lv_at hl 2 rfl) ?_
  cases h
  exact e_im hx hb hlocks hr hP hD hS (Nat.le_of_ble_eq_true rfl) (Nat.le_of_ble_eq_true rfl) dX7_begin_46
set_option maxRecDepth 100000 in
theorem c_X7_begin {p : Program} {l : Launch} {e : Env} {R : Room} {s : State} {m : MethodId} {args : Array Value} {below : List Frame} {meth : Method} {c : Code} {H : Heap} {locs : List Loc} {cells slots : Nat} {Q : State → Prop} {cc : ByteArray} {pc index nL : Nat} {ls : Array Slot} {rest : List Value} {D : va_G} {cy : Nat → ClassId} {A0 : Nat → Prop} {S : St} {H0 : Heap} {own : String} {u : Unit} {a0 : Nat} {a1 : Int32} {r : Int32} {S1 : St}  (hF : CallFix p m c cc nL s args ALLW own) (hsz : ls.size = nL) (hK : va_K D vwCl (tyL cy) s) (hP : SP D cy S H) (hD : ∀ a, S a ≠ none → A0 a) (hA : ∀ q, H0.size ≤ q → A0 q) (hS : va_S A0 H0 H locs) (hk : Cond.methodLink own index yX7_begin ∈ ALLW) (hR : rm_X7_begin.frames + 1 ≤ R.frames ∧ 8 + (4 + 11) + rm_X7_begin.locals ≤ R.locals) (h : f_X7_begin S a0 a1 = some (r, S1)) (hc : oO S a0 6 = some u) (hW : (rest.map fun v => v.category).sum ≤ 8) (hdg : decode cc pc = .ok (.invokevirtual index, 3)) (hf : cells + 0 ≤ R.cells ∧ slots + 0 ≤ R.slots)
    (kk : ∀ (H1 : Heap) (locs1 : List Loc), SP D cy S1 H1 → (∀ a, S1 a ≠ none → A0 a) → va_S A0 H0 H1 locs1 → W p l e R s m args below meth c H1 locs1 (cells + 0) (slots + 0) Q (F0 m (pc + 3) ls (.int r :: rest))) : W p l e R s m args below meth c H locs cells slots Q (F0 m pc ls (.int a1 :: .ref a0 :: rest)) := by
  exact k_iVm (As := [.int a1]) hF hsz (m_X7_begin l D cy H.size S a0 a1 r S1 h) (cwV_of (n := 1) hF.2.2.2.2 hk wd_947 wd_20 wd_75 wd_948 rfl rfl (by decide +kernel) hR) rfl hK hP hD hA hS (ci := 6) hc rfl hW rfl hdg hf kk
/-- VowBlocksModel.of(II)I -/
def f_X7_of (S : St) (a0 : Nat) (a1 : Int32) (a2 : Int32) : Option (Int32) :=
  (gR S a0 6 0).bind fun x1 =>
  (aI S x1 ((4 + (32 * a1)) + a2)).bind fun x3 =>
  some x3
abbrev rm_X7_of : Room := { frames := 0, cells := 0, slots := 0, locals := 0 }
set_option maxHeartbeats 4000000 in
set_option maxRecDepth 100000 in
theorem m_X7_of (l : Launch) (D : va_G) (cy : Nat → ClassId) (S : St) (a0 : Nat) (a1 : Int32) (a2 : Int32) (r : Int32) (h : f_X7_of S a0 a1 a2 = some r) : Met l yX7_of (wsA yX7_of cX7_of 3 (some .int)) rm_X7_of (va_Pc [.ref a0, .int a1, .int a2] (PS D cy S)) (va_Qi (fun r' (_ : Unit) => r' = r) (fun _ _ => True) noA) 0 0 noA := by
  refine Met.ofW (cc := cX7_of) (maxL := 3) (ret := (some .int)) (by decide) rfl ?_
  intro p e s m args below meth c s₁ B hml hv
  obtain ⟨rfl, hP, hK⟩ := hv
  have hx := B.exec
  have hb := B.bytes
  have hr := B.returns
  have hts9 := atoms_spec (ws := wsA yX7_of cX7_of 3 (some .int)) B.pre
  have hts : ∀ w ∈ ALLW, w.before _ s = true := fun w h => hts9 w (List.mem_cons_of_mem _ h)
  have hown : s.vm.findClass RX7 = some m.cls := findClass_of_methodNamed B.named
  have hlocks := B.notSynchronized
  have hS : va_S noA s.heap s.heap [] := va_S.rf
  have hl := lv_entry [.ref a0, .int a1, .int a2] (n := 3) (Nat.le_of_ble_eq_true rfl)
  rw [lg_entry_eq]
  generalize (lg_sl [.ref a0, .int a1, .int a2] ++ List.replicate (3 - (lg_sl [.ref a0, .int a1, .int a2]).length) Slot.unset).toArray = ls at hl ⊢
  have hl : lv_has ls 3 [(0, .ref a0), (1, .int a1), (2, .int a2)] := hl
  rw [f_X7_of] at h
  refine lv_aload_n hx hb dX7_of_0 rfl (lv_at hl 0 rfl) ?_
  replace h := bd h
  obtain ⟨x1, q2, h⟩ := h
  refine fg_6_0 hx hb hts hown hK hP wd_887 q2 dX7_of_1 ?_
  refine lv_iconst (v := 4) hx hb dX7_of_4 (by decide) ?_
  refine lv_bipush (v := 32) hx hb dX7_of_5 (by decide) ?_
  refine lv_iload_n hx hb dX7_of_7 rfl (lv_at hl 1 rfl) ?_
  refine lv_imul hx hb dX7_of_8 ?_
  refine lv_iadd hx hb dX7_of_9 ?_
  refine lv_iload_n hx hb dX7_of_10 rfl (lv_at hl 2 rfl) ?_
  refine lv_iadd hx hb dX7_of_11 ?_
  replace h := bd h
  obtain ⟨x3, q4, h⟩ := h
  refine r_aI hx hb hK hP q4 dX7_of_12 ?_
  cases h
  exact e_ip hx hb hlocks hr hS (Nat.le_of_ble_eq_true rfl) (Nat.le_of_ble_eq_true rfl) dX7_of_13
set_option maxRecDepth 100000 in
theorem c_X7_of {p : Program} {l : Launch} {e : Env} {R : Room} {s : State} {m : MethodId} {args : Array Value} {below : List Frame} {meth : Method} {c : Code} {H : Heap} {locs : List Loc} {cells slots : Nat} {Q : State → Prop} {cc : ByteArray} {pc index nL : Nat} {ls : Array Slot} {rest : List Value} {D : va_G} {cy : Nat → ClassId} {A0 : Nat → Prop} {S : St} {H0 : Heap} {own : String} {u : Unit} {a0 : Nat} {a1 : Int32} {a2 : Int32} {r : Int32}  (hF : CallFix p m c cc nL s args ALLW own) (hsz : ls.size = nL) (hK : va_K D vwCl (tyL cy) s) (hP : SP D cy S H) (hS : va_S A0 H0 H locs) (hk : Cond.methodLink own index yX7_of ∈ ALLW) (hR : rm_X7_of.frames + 1 ≤ R.frames ∧ 8 + (3 + 11) + rm_X7_of.locals ≤ R.locals) (h : f_X7_of S a0 a1 a2 = some r) (hc : oO S a0 6 = some u) (hW : (rest.map fun v => v.category).sum ≤ 8) (hdg : decode cc pc = .ok (.invokevirtual index, 3)) (hf : cells + 0 ≤ R.cells ∧ slots + 0 ≤ R.slots)
    (kk : ∀ (H1 : Heap) (locs1 : List Loc), SP D cy S H1 → va_S A0 H0 H1 locs1 → W p l e R s m args below meth c H1 locs1 (cells + 0) (slots + 0) Q (F0 m (pc + 3) ls (.int r :: rest))) : W p l e R s m args below meth c H locs cells slots Q (F0 m pc ls (.int a2 :: .int a1 :: .ref a0 :: rest)) := by
  exact k_iVp (As := [.int a1, .int a2]) hF hsz (m_X7_of l D cy S a0 a1 a2 r h) (cwV_of (n := 2) hF.2.2.2.2 hk wd_963 wd_24 wd_75 wd_964 rfl rfl (by decide +kernel) hR) rfl hK hP hS (ci := 6) hc rfl hW rfl hdg hf kk
/-- VowBlocksModel.lay(I)V -/
def f_X7_lay_L12 (y12_0 : Nat) (y12_1 : Int32) : Nat → St → Int32 →  Option (St)
  | 0, _, _ => none
  | fu + 1, S12_, y12_2 =>
    (gI S12_ y12_0 6 7).bind fun x8 =>
    if x8 ≤ y12_2 then
      some S12_
    else
      (gR S12_ y12_0 6 6).bind fun x11 =>
      (oO S12_ y12_0 6).bind fun _ =>
      (f_X7_of S12_ y12_0 y12_1 (8 + y12_2)).bind fun x15 =>
      (sI S12_ x11 y12_2 x15).bind fun Z16 =>
      f_X7_lay_L12 y12_0 y12_1 fu Z16 (y12_2 + 1)
def f_X7_lay (S : St) (a0 : Nat) (a1 : Int32) : Option (St) :=
  (oO S a0 6).bind fun _ =>
  (f_X7_of S a0 a1 0).bind fun x3 =>
  (pI S a0 6 7 x3).bind fun Z4 =>
  (f_X7_lay_L12 a0 a1 FU Z4 0).bind fun z6 =>
  some z6
abbrev rm_X7_lay : Room := { frames := 1, cells := 0, slots := 0, locals := 22 }
set_option maxHeartbeats 4000000 in
set_option maxRecDepth 100000 in
theorem m_X7_lay (l : Launch) (D : va_G) (cy : Nat → ClassId) (sz : Nat) (S : St) (a0 : Nat) (a1 : Int32) (S1 : St) (h : f_X7_lay S a0 a1 = some S1) : Met l yX7_lay (wsA yX7_lay cX7_lay 3 none) rm_X7_lay (va_Pc [.ref a0, .int a1] (PN D cy S sz)) (va_Qv (fun _ : Unit => True) (fun _ t => PoS D cy S1 (dm S sz) t) (dm S sz)) 0 0 (dm S sz) := by
  refine Met.ofW (cc := cX7_lay) (maxL := 3) (ret := none) (by decide) rfl ?_
  intro p e s m args below meth c s₁ B hml hv
  obtain ⟨rfl, hsz, hP, hK⟩ := hv
  have hx := B.exec
  have hb := B.bytes
  have hr := B.returns
  have hts9 := atoms_spec (ws := wsA yX7_lay cX7_lay 3 none) B.pre
  have hts : ∀ w ∈ ALLW, w.before _ s = true := fun w h => hts9 w (List.mem_cons_of_mem _ h)
  have hown : s.vm.findClass RX7 = some m.cls := findClass_of_methodNamed B.named
  have hlocks := B.notSynchronized
  subst hsz
  have hD : ∀ a, S a ≠ none → dm S s.heap.size a := fun a h => Or.inl h
  have hA : ∀ q : Nat, s.heap.size ≤ q → dm S s.heap.size q := fun q h => Or.inr h
  have hS : va_S (dm S s.heap.size) s.heap s.heap [] := va_S.rf
  have hl := lv_entry [.ref a0, .int a1] (n := 3) (Nat.le_of_ble_eq_true rfl)
  rw [lg_entry_eq]
  generalize (lg_sl [.ref a0, .int a1] ++ List.replicate (3 - (lg_sl [.ref a0, .int a1]).length) Slot.unset).toArray = ls at hl ⊢
  have hl : lv_has ls 3 [(0, .ref a0), (1, .int a1)] := hl
  rw [f_X7_lay] at h
  refine lv_aload_n hx hb dX7_lay_0 rfl (lv_at hl 0 rfl) ?_
  refine lv_aload_n hx hb dX7_lay_1 rfl (lv_at hl 0 rfl) ?_
  refine lv_iload_n hx hb dX7_lay_2 rfl (lv_at hl 1 rfl) ?_
  refine lv_iconst (v := 0) hx hb dX7_lay_3 (by decide) ?_
  replace h := bd h
  obtain ⟨_, q1, h⟩ := h
  replace h := bd h
  obtain ⟨x3, q2, h⟩ := h
  refine c_X7_of ⟨hx, hb, hml, hown, hts⟩ hl.1 hK hP hS wd_961 ⟨(Nat.le_of_ble_eq_true rfl), (Nat.le_of_ble_eq_true rfl)⟩ q2 q1 (Nat.le_of_ble_eq_true rfl) dX7_lay_4 ⟨(Nat.le_of_ble_eq_true rfl), (Nat.le_of_ble_eq_true rfl)⟩ (fun H locs hP hS => ?_)
  replace h := bd h
  obtain ⟨Z4, q5, h⟩ := h
  refine fp_6_7 hx hb hts hown hK hP hD hS wd_894 q5 dX7_lay_7 (fun H locs hz9 hP hD hS => ?_)
  refine lv_iconst (v := 0) hx hb dX7_lay_10 (by decide) ?_
  refine lv_istore_n (lv' := [(2, .int 0), (0, .ref a0), (1, .int a1)]) hx hb dX7_lay_11 rfl hl (by decide) rfl (fun ls hl => ?_)
  have L12 : ∀ (y12_0 : Nat) (y12_1 : Int32) (fu : Nat) (S12_ : St) (y12_2 : Int32) (res : St), f_X7_lay_L12 y12_0 y12_1 fu S12_ y12_2 = some res → ∀ (H : Heap) (locs : List Loc) (ls : Array Slot), SP D cy S12_ H → (∀ a, S12_ a ≠ none → (dm S s.heap.size) a) → va_S (dm S s.heap.size) s.heap H locs → lv_has ls 3 [(0, .ref y12_0), (1, .int y12_1), (2, .int y12_2)] → (∀ (H : Heap) (locs : List Loc) (ls : Array Slot), SP D cy res H → (∀ a, res a ≠ none → (dm S s.heap.size) a) → va_S (dm S s.heap.size) s.heap H locs → lv_has ls 3 [] → W p l e rm_X7_lay s m ([.ref a0, .int a1] : List Value).toArray below meth c H locs 0 0 (MQ below (va_Qv (fun _ : Unit => True) (fun _ t => PoS D cy S1 (dm S s.heap.size) t) (dm S s.heap.size)) ([.ref a0, .int a1] : List Value).toArray s 0 0 (dm S s.heap.size)) (F0 m 41 ls [])) → W p l e rm_X7_lay s m ([.ref a0, .int a1] : List Value).toArray below meth c H locs 0 0 (MQ below (va_Qv (fun _ : Unit => True) (fun _ t => PoS D cy S1 (dm S s.heap.size) t) (dm S s.heap.size)) ([.ref a0, .int a1] : List Value).toArray s 0 0 (dm S s.heap.size)) (F0 m 12 ls []) := by
    intro y12_0 y12_1 fu
    induction fu with
    | zero =>
      intro S12_ y12_2 res h
      rw [f_X7_lay_L12] at h
      cases h
    | succ fu ih =>
      intro S12_ y12_2 res h H locs ls hP hD hS hl hexit
      rw [f_X7_lay_L12] at h
      refine lv_iload_n hx hb dX7_lay_12 rfl (lv_at hl 2 rfl) ?_
      refine lv_aload_n hx hb dX7_lay_13 rfl (lv_at hl 0 rfl) ?_
      replace h := bd h
      obtain ⟨x8, q9, h⟩ := h
      refine fg_6_7 hx hb hts hown hK hP wd_894 q9 dX7_lay_14 ?_
      refine lv_icmp_ge (tgt := 41) hx hb dX7_lay_17 (by decide) (fun c10 => ?_) (fun c10 => ?_)
      · replace h := ifp c10 h
        cases h
        exact hexit _ _ _ hP hD hS (lv_sub hl [] rfl)
      · replace h := ifn c10 h
        refine lv_aload_n hx hb dX7_lay_20 rfl (lv_at hl 0 rfl) ?_
        replace h := bd h
        obtain ⟨x11, q12, h⟩ := h
        refine fg_6_6 hx hb hts hown hK hP wd_893 q12 dX7_lay_21 ?_
        refine lv_iload_n hx hb dX7_lay_24 rfl (lv_at hl 2 rfl) ?_
        refine lv_aload_n hx hb dX7_lay_25 rfl (lv_at hl 0 rfl) ?_
        refine lv_iload_n hx hb dX7_lay_26 rfl (lv_at hl 1 rfl) ?_
        refine lv_bipush (v := 8) hx hb dX7_lay_27 (by decide) ?_
        refine lv_iload_n hx hb dX7_lay_29 rfl (lv_at hl 2 rfl) ?_
        refine lv_iadd hx hb dX7_lay_30 ?_
        replace h := bd h
        obtain ⟨_, q13, h⟩ := h
        replace h := bd h
        obtain ⟨x15, q14, h⟩ := h
        refine c_X7_of ⟨hx, hb, hml, hown, hts⟩ hl.1 hK hP hS wd_961 ⟨(Nat.le_of_ble_eq_true rfl), (Nat.le_of_ble_eq_true rfl)⟩ q14 q13 (Nat.le_of_ble_eq_true rfl) dX7_lay_31 ⟨(Nat.le_of_ble_eq_true rfl), (Nat.le_of_ble_eq_true rfl)⟩ (fun H locs hP hS => ?_)
        replace h := bd h
        obtain ⟨Z16, q17, h⟩ := h
        refine r_sI hx hb hK hP hD hS q17 dX7_lay_34 (fun H locs hz9 hP hD hS => ?_)
        refine lv_iinc (v := (y12_2 + 1)) (lv' := [(2, .int (y12_2 + 1)), (0, .ref y12_0), (1, .int y12_1)]) hx hb dX7_lay_35 hl (k := 2) rfl rfl (by decide) rfl (fun ls hl => ?_)
        refine lv_goto (tgt := 12) hx hb dX7_lay_38 (by decide) ?_
        exact ih Z16 (y12_2 + 1) _ h _ _ _ hP hD hS (lv_sub hl [1, 2, 0] rfl) hexit
  replace h := bd h
  obtain ⟨z6, q18, h⟩ := h
  refine L12 a0 a1 FU Z4 0 z6 q18 _ _ _ hP hD hS (lv_sub hl [1, 2, 0] rfl) (fun H locs ls hP hD hS hl => ?_)
  cases h
  exact e_vm hx hb hlocks hr hP hD hS (Nat.le_of_ble_eq_true rfl) (Nat.le_of_ble_eq_true rfl) dX7_lay_41
set_option maxRecDepth 100000 in
theorem c_X7_lay {p : Program} {l : Launch} {e : Env} {R : Room} {s : State} {m : MethodId} {args : Array Value} {below : List Frame} {meth : Method} {c : Code} {H : Heap} {locs : List Loc} {cells slots : Nat} {Q : State → Prop} {cc : ByteArray} {pc index nL : Nat} {ls : Array Slot} {rest : List Value} {D : va_G} {cy : Nat → ClassId} {A0 : Nat → Prop} {S : St} {H0 : Heap} {own : String} {u : Unit} {a0 : Nat} {a1 : Int32} {S1 : St}  (hF : CallFix p m c cc nL s args ALLW own) (hsz : ls.size = nL) (hK : va_K D vwCl (tyL cy) s) (hP : SP D cy S H) (hD : ∀ a, S a ≠ none → A0 a) (hA : ∀ q, H0.size ≤ q → A0 q) (hS : va_S A0 H0 H locs) (hk : Cond.methodLink own index yX7_lay ∈ ALLW) (hR : rm_X7_lay.frames + 1 ≤ R.frames ∧ 8 + (3 + 11) + rm_X7_lay.locals ≤ R.locals) (h : f_X7_lay S a0 a1 = some S1) (hc : oO S a0 6 = some u) (hW : (rest.map fun v => v.category).sum ≤ 8) (hdg : decode cc pc = .ok (.invokevirtual index, 3)) (hf : cells + 0 ≤ R.cells ∧ slots + 0 ≤ R.slots)
    (kk : ∀ (H1 : Heap) (locs1 : List Loc), SP D cy S1 H1 → (∀ a, S1 a ≠ none → A0 a) → va_S A0 H0 H1 locs1 → W p l e R s m args below meth c H1 locs1 (cells + 0) (slots + 0) Q (F0 m (pc + 3) ls (rest))) : W p l e R s m args below meth c H locs cells slots Q (F0 m pc ls (.int a1 :: .ref a0 :: rest)) := by
  exact k_vVm (As := [.int a1]) hF hsz (m_X7_lay l D cy H.size S a0 a1 S1 h) (cwV_of (n := 1) hF.2.2.2.2 hk wd_959 wd_23 wd_75 wd_960 rfl rfl (by decide +kernel) hR) rfl hK hP hD hA hS (ci := 6) hc rfl hW rfl hdg hf kk
/-- VowBlocksModel.runsOf(I)I -/
def f_X7_runsOf_L12 (S12_ : St) (y12_0 : Nat) (y12_1 : Int32) : Nat → Int32 → Int32 →  Option (Int32)
  | 0, _, _ => none
  | fu + 1, y12_2, y12_3 =>
    if y12_1 ≤ y12_3 then
      some y12_2
    else
      (gR S12_ y12_0 6 6).bind fun x6 =>
      (aI S12_ x6 y12_3).bind fun x8 =>
      (gR S12_ y12_0 6 6).bind fun x10 =>
      (aI S12_ x10 (y12_3 - 1)).bind fun x12 =>
      (
        if x8 = x12 then
          some 0
        else
          some 1
      : Option (Int32)).bind fun t14 =>
      f_X7_runsOf_L12 S12_ y12_0 y12_1 fu (y12_2 + t14) (y12_3 + 1)
def f_X7_runsOf (S : St) (a0 : Nat) (a1 : Int32) : Option (Int32) :=
  (
    if a1 ≤ 0 then
      some 0
    else
      some 1
  : Option (Int32)).bind fun t1 =>
  (f_X7_runsOf_L12 S a0 a1 FU t1 1).bind fun z3 =>
  some z3
abbrev rm_X7_runsOf : Room := { frames := 0, cells := 0, slots := 0, locals := 0 }
set_option maxHeartbeats 4000000 in
set_option maxRecDepth 100000 in
theorem m_X7_runsOf (l : Launch) (D : va_G) (cy : Nat → ClassId) (S : St) (a0 : Nat) (a1 : Int32) (r : Int32) (h : f_X7_runsOf S a0 a1 = some r) : Met l yX7_runsOf (wsA yX7_runsOf cX7_runsOf 4 (some .int)) rm_X7_runsOf (va_Pc [.ref a0, .int a1] (PS D cy S)) (va_Qi (fun r' (_ : Unit) => r' = r) (fun _ _ => True) noA) 0 0 noA := by
  refine Met.ofW (cc := cX7_runsOf) (maxL := 4) (ret := (some .int)) (by decide) rfl ?_
  intro p e s m args below meth c s₁ B hml hv
  obtain ⟨rfl, hP, hK⟩ := hv
  have hx := B.exec
  have hb := B.bytes
  have hr := B.returns
  have hts9 := atoms_spec (ws := wsA yX7_runsOf cX7_runsOf 4 (some .int)) B.pre
  have hts : ∀ w ∈ ALLW, w.before _ s = true := fun w h => hts9 w (List.mem_cons_of_mem _ h)
  have hown : s.vm.findClass RX7 = some m.cls := findClass_of_methodNamed B.named
  have hlocks := B.notSynchronized
  have hS : va_S noA s.heap s.heap [] := va_S.rf
  have hl := lv_entry [.ref a0, .int a1] (n := 4) (Nat.le_of_ble_eq_true rfl)
  rw [lg_entry_eq]
  generalize (lg_sl [.ref a0, .int a1] ++ List.replicate (4 - (lg_sl [.ref a0, .int a1]).length) Slot.unset).toArray = ls at hl ⊢
  have hl : lv_has ls 4 [(0, .ref a0), (1, .int a1)] := hl
  rw [f_X7_runsOf] at h
  refine lv_iload_n hx hb dX7_runsOf_0 rfl (lv_at hl 1 rfl) ?_
  replace h := bd h
  obtain ⟨t1, ht, h⟩ := h
  have K1 : ∀ (H : Heap) (locs : List Loc) (ls : Array Slot), SP D cy S H → va_S noA s.heap H locs → lv_has ls 4 [(0, .ref a0), (1, .int a1)] → W p l e rm_X7_runsOf s m ([.ref a0, .int a1] : List Value).toArray below meth c H locs 0 0 (MQ below (va_Qi (fun r' (_ : Unit) => r' = r) (fun _ _ => True) noA) ([.ref a0, .int a1] : List Value).toArray s 0 0 noA) (F0 m 9 ls [.int t1]) := by
    intro H locs ls hP hS hl
    refine lv_istore_n (lv' := [(2, .int t1), (0, .ref a0), (1, .int a1)]) hx hb dX7_runsOf_9 rfl hl (by decide) rfl (fun ls hl => ?_)
    refine lv_iconst (v := 1) hx hb dX7_runsOf_10 (by decide) ?_
    refine lv_istore_n (lv' := [(3, .int 1), (2, .int t1), (0, .ref a0), (1, .int a1)]) hx hb dX7_runsOf_11 rfl hl (by decide) rfl (fun ls hl => ?_)
    have L12 : ∀ (S12_ : St) (y12_0 : Nat) (y12_1 : Int32) (fu : Nat) (y12_2 : Int32) (y12_3 : Int32) (res : Int32), f_X7_runsOf_L12 S12_ y12_0 y12_1 fu y12_2 y12_3 = some res → ∀ (H : Heap) (locs : List Loc) (ls : Array Slot), SP D cy S12_ H → va_S noA s.heap H locs → lv_has ls 4 [(0, .ref y12_0), (1, .int y12_1), (2, .int y12_2), (3, .int y12_3)] → (∀ (H : Heap) (locs : List Loc) (ls : Array Slot), SP D cy S12_ H → va_S noA s.heap H locs → lv_has ls 4 [(2, .int res)] → W p l e rm_X7_runsOf s m ([.ref a0, .int a1] : List Value).toArray below meth c H locs 0 0 (MQ below (va_Qi (fun r' (_ : Unit) => r' = r) (fun _ _ => True) noA) ([.ref a0, .int a1] : List Value).toArray s 0 0 noA) (F0 m 48 ls [])) → W p l e rm_X7_runsOf s m ([.ref a0, .int a1] : List Value).toArray below meth c H locs 0 0 (MQ below (va_Qi (fun r' (_ : Unit) => r' = r) (fun _ _ => True) noA) ([.ref a0, .int a1] : List Value).toArray s 0 0 noA) (F0 m 12 ls []) := by
      intro S12_ y12_0 y12_1 fu
      induction fu with
      | zero =>
        intro y12_2 y12_3 res h
        rw [f_X7_runsOf_L12] at h
        cases h
      | succ fu ih =>
        intro y12_2 y12_3 res h H locs ls hP hS hl hexit
        rw [f_X7_runsOf_L12] at h
        refine lv_iload_n hx hb dX7_runsOf_12 rfl (lv_at hl 3 rfl) ?_
        refine lv_iload_n hx hb dX7_runsOf_13 rfl (lv_at hl 1 rfl) ?_
        refine lv_icmp_ge (tgt := 48) hx hb dX7_runsOf_14 (by decide) (fun c5 => ?_) (fun c5 => ?_)
        · replace h := ifp c5 h
          cases h
          exact hexit _ _ _ hP hS (lv_sub hl [2] rfl)
        · replace h := ifn c5 h
          refine lv_iload_n hx hb dX7_runsOf_17 rfl (lv_at hl 2 rfl) ?_
          refine lv_aload_n hx hb dX7_runsOf_18 rfl (lv_at hl 0 rfl) ?_
          replace h := bd h
          obtain ⟨x6, q7, h⟩ := h
          refine fg_6_6 hx hb hts hown hK hP wd_893 q7 dX7_runsOf_19 ?_
          refine lv_iload_n hx hb dX7_runsOf_22 rfl (lv_at hl 3 rfl) ?_
          replace h := bd h
          obtain ⟨x8, q9, h⟩ := h
          refine r_aI hx hb hK hP q9 dX7_runsOf_23 ?_
          refine lv_aload_n hx hb dX7_runsOf_24 rfl (lv_at hl 0 rfl) ?_
          replace h := bd h
          obtain ⟨x10, q11, h⟩ := h
          refine fg_6_6 hx hb hts hown hK hP wd_893 q11 dX7_runsOf_25 ?_
          refine lv_iload_n hx hb dX7_runsOf_28 rfl (lv_at hl 3 rfl) ?_
          refine lv_iconst (v := 1) hx hb dX7_runsOf_29 (by decide) ?_
          refine lv_isub hx hb dX7_runsOf_30 ?_
          replace h := bd h
          obtain ⟨x12, q13, h⟩ := h
          refine r_aI hx hb hK hP q13 dX7_runsOf_31 ?_
          replace h := bd h
          obtain ⟨t14, ht, h⟩ := h
          have K14 : ∀ (H : Heap) (locs : List Loc) (ls : Array Slot), SP D cy S12_ H → va_S noA s.heap H locs → lv_has ls 4 [(0, .ref y12_0), (1, .int y12_1), (3, .int y12_3)] → W p l e rm_X7_runsOf s m ([.ref a0, .int a1] : List Value).toArray below meth c H locs 0 0 (MQ below (va_Qi (fun r' (_ : Unit) => r' = r) (fun _ _ => True) noA) ([.ref a0, .int a1] : List Value).toArray s 0 0 noA) (F0 m 40 ls [.int t14, .int y12_2]) := by
            intro H locs ls hP hS hl
            refine lv_iadd hx hb dX7_runsOf_40 ?_
            refine lv_istore_n (lv' := [(2, .int (y12_2 + t14)), (0, .ref y12_0), (1, .int y12_1), (3, .int y12_3)]) hx hb dX7_runsOf_41 rfl hl (by decide) rfl (fun ls hl => ?_)
            refine lv_iinc (v := (y12_3 + 1)) (lv' := [(3, .int (y12_3 + 1)), (2, .int (y12_2 + t14)), (0, .ref y12_0), (1, .int y12_1)]) hx hb dX7_runsOf_42 hl (k := 3) rfl rfl (by decide) rfl (fun ls hl => ?_)
            refine lv_goto (tgt := 12) hx hb dX7_runsOf_45 (by decide) ?_
            exact ih (y12_2 + t14) (y12_3 + 1) _ h _ _ _ hP hS (lv_sub hl [2, 3, 1, 0] rfl) hexit
          replace h := ht
          refine lv_icmp_ne (tgt := 39) hx hb dX7_runsOf_32 (by decide) (fun c15 => ?_) (fun c15 => ?_)
          · replace h := ifn c15 h
            refine lv_iconst (v := 1) hx hb dX7_runsOf_39 (by decide) ?_
            cases h
            exact K14 _ _ _ hP hS (lv_sub hl [0, 1, 3] rfl)
          · replace h := ifp c15 h
            refine lv_iconst (v := 0) hx hb dX7_runsOf_35 (by decide) ?_
            refine lv_goto (tgt := 40) hx hb dX7_runsOf_36 (by decide) ?_
            cases h
            exact K14 _ _ _ hP hS (lv_sub hl [0, 1, 3] rfl)
    replace h := bd h
    obtain ⟨z3, q16, h⟩ := h
    refine L12 S a0 a1 FU t1 1 z3 q16 _ _ _ hP hS (lv_sub hl [2, 3, 1, 0] rfl) (fun H locs ls hP hS hl => ?_)
    refine lv_iload_n hx hb dX7_runsOf_48 rfl (lv_at hl 0 rfl) ?_
    cases h
    exact e_ip hx hb hlocks hr hS (Nat.le_of_ble_eq_true rfl) (Nat.le_of_ble_eq_true rfl) dX7_runsOf_49
  replace h := ht
  refine lv_if_le (tgt := 8) hx hb dX7_runsOf_1 (by decide) (fun c2 => ?_) (fun c2 => ?_)
  · replace h := ifp c2 h
    refine lv_iconst (v := 0) hx hb dX7_runsOf_8 (by decide) ?_
    cases h
    exact K1 _ _ _ hP hS (lv_sub hl [0, 1] rfl)
  · replace h := ifn c2 h
    refine lv_iconst (v := 1) hx hb dX7_runsOf_4 (by decide) ?_
    refine lv_goto (tgt := 9) hx hb dX7_runsOf_5 (by decide) ?_
    cases h
    exact K1 _ _ _ hP hS (lv_sub hl [0, 1] rfl)
set_option maxRecDepth 100000 in
theorem c_X7_runsOf {p : Program} {l : Launch} {e : Env} {R : Room} {s : State} {m : MethodId} {args : Array Value} {below : List Frame} {meth : Method} {c : Code} {H : Heap} {locs : List Loc} {cells slots : Nat} {Q : State → Prop} {cc : ByteArray} {pc index nL : Nat} {ls : Array Slot} {rest : List Value} {D : va_G} {cy : Nat → ClassId} {A0 : Nat → Prop} {S : St} {H0 : Heap} {own : String} {u : Unit} {a0 : Nat} {a1 : Int32} {r : Int32}  (hF : CallFix p m c cc nL s args ALLW own) (hsz : ls.size = nL) (hK : va_K D vwCl (tyL cy) s) (hP : SP D cy S H) (hS : va_S A0 H0 H locs) (hk : Cond.methodLink own index yX7_runsOf ∈ ALLW) (hR : rm_X7_runsOf.frames + 1 ≤ R.frames ∧ 8 + (4 + 11) + rm_X7_runsOf.locals ≤ R.locals) (h : f_X7_runsOf S a0 a1 = some r) (hc : oO S a0 6 = some u) (hW : (rest.map fun v => v.category).sum ≤ 8) (hdg : decode cc pc = .ok (.invokevirtual index, 3)) (hf : cells + 0 ≤ R.cells ∧ slots + 0 ≤ R.slots)
    (kk : ∀ (H1 : Heap) (locs1 : List Loc), SP D cy S H1 → va_S A0 H0 H1 locs1 → W p l e R s m args below meth c H1 locs1 (cells + 0) (slots + 0) Q (F0 m (pc + 3) ls (.int r :: rest))) : W p l e R s m args below meth c H locs cells slots Q (F0 m pc ls (.int a1 :: .ref a0 :: rest)) := by
  exact k_iVp (As := [.int a1]) hF hsz (m_X7_runsOf l D cy S a0 a1 r h) (cwV_of (n := 1) hF.2.2.2.2 hk wd_975 wd_27 wd_75 wd_976 rfl rfl (by decide +kernel) hR) rfl hK hP hS (ci := 6) hc rfl hW rfl hdg hf kk
/-- VowBlocksModel.firstOf(I)I -/
def f_X7_firstOf_L2 (S2_ : St) (y2_0 : Nat) (y2_1 : Int32) : Nat → Int32 →  Option (Int32)
  | 0, _ => none
  | fu + 1, y2_2 =>
    (gI S2_ y2_0 6 7).bind fun x3 =>
    if x3 ≤ y2_2 then
      some y2_2
    else
      (gR S2_ y2_0 6 6).bind fun x6 =>
      (aI S2_ x6 y2_2).bind fun x8 =>
      if x8 = y2_1 then
        some y2_2
      else
        f_X7_firstOf_L2 S2_ y2_0 y2_1 fu (y2_2 + 1)
def f_X7_firstOf (S : St) (a0 : Nat) (a1 : Int32) : Option (Int32) :=
  (f_X7_firstOf_L2 S a0 a1 FU 0).bind fun z1 =>
  some z1
abbrev rm_X7_firstOf : Room := { frames := 0, cells := 0, slots := 0, locals := 0 }
set_option maxHeartbeats 4000000 in
set_option maxRecDepth 100000 in
theorem m_X7_firstOf (l : Launch) (D : va_G) (cy : Nat → ClassId) (S : St) (a0 : Nat) (a1 : Int32) (r : Int32) (h : f_X7_firstOf S a0 a1 = some r) : Met l yX7_firstOf (wsA yX7_firstOf cX7_firstOf 3 (some .int)) rm_X7_firstOf (va_Pc [.ref a0, .int a1] (PS D cy S)) (va_Qi (fun r' (_ : Unit) => r' = r) (fun _ _ => True) noA) 0 0 noA := by
  refine Met.ofW (cc := cX7_firstOf) (maxL := 3) (ret := (some .int)) (by decide) rfl ?_
  intro p e s m args below meth c s₁ B hml hv
  obtain ⟨rfl, hP, hK⟩ := hv
  have hx := B.exec
  have hb := B.bytes
  have hr := B.returns
  have hts9 := atoms_spec (ws := wsA yX7_firstOf cX7_firstOf 3 (some .int)) B.pre
  have hts : ∀ w ∈ ALLW, w.before _ s = true := fun w h => hts9 w (List.mem_cons_of_mem _ h)
  have hown : s.vm.findClass RX7 = some m.cls := findClass_of_methodNamed B.named
  have hlocks := B.notSynchronized
  have hS : va_S noA s.heap s.heap [] := va_S.rf
  have hl := lv_entry [.ref a0, .int a1] (n := 3) (Nat.le_of_ble_eq_true rfl)
  rw [lg_entry_eq]
  generalize (lg_sl [.ref a0, .int a1] ++ List.replicate (3 - (lg_sl [.ref a0, .int a1]).length) Slot.unset).toArray = ls at hl ⊢
  have hl : lv_has ls 3 [(0, .ref a0), (1, .int a1)] := hl
  rw [f_X7_firstOf] at h
  refine lv_iconst (v := 0) hx hb dX7_firstOf_0 (by decide) ?_
  refine lv_istore_n (lv' := [(2, .int 0), (0, .ref a0), (1, .int a1)]) hx hb dX7_firstOf_1 rfl hl (by decide) rfl (fun ls hl => ?_)
  have L2 : ∀ (S2_ : St) (y2_0 : Nat) (y2_1 : Int32) (fu : Nat) (y2_2 : Int32) (res : Int32), f_X7_firstOf_L2 S2_ y2_0 y2_1 fu y2_2 = some res → ∀ (H : Heap) (locs : List Loc) (ls : Array Slot), SP D cy S2_ H → va_S noA s.heap H locs → lv_has ls 3 [(0, .ref y2_0), (1, .int y2_1), (2, .int y2_2)] → (∀ (H : Heap) (locs : List Loc) (ls : Array Slot), SP D cy S2_ H → va_S noA s.heap H locs → lv_has ls 3 [(2, .int res)] → W p l e rm_X7_firstOf s m ([.ref a0, .int a1] : List Value).toArray below meth c H locs 0 0 (MQ below (va_Qi (fun r' (_ : Unit) => r' = r) (fun _ _ => True) noA) ([.ref a0, .int a1] : List Value).toArray s 0 0 noA) (F0 m 26 ls [])) → W p l e rm_X7_firstOf s m ([.ref a0, .int a1] : List Value).toArray below meth c H locs 0 0 (MQ below (va_Qi (fun r' (_ : Unit) => r' = r) (fun _ _ => True) noA) ([.ref a0, .int a1] : List Value).toArray s 0 0 noA) (F0 m 2 ls []) := by
    intro S2_ y2_0 y2_1 fu
    induction fu with
    | zero =>
      intro y2_2 res h
      rw [f_X7_firstOf_L2] at h
      cases h
    | succ fu ih =>
      intro y2_2 res h H locs ls hP hS hl hexit
      rw [f_X7_firstOf_L2] at h
      refine lv_iload_n hx hb dX7_firstOf_2 rfl (lv_at hl 2 rfl) ?_
      refine lv_aload_n hx hb dX7_firstOf_3 rfl (lv_at hl 0 rfl) ?_
      replace h := bd h
      obtain ⟨x3, q4, h⟩ := h
      refine fg_6_7 hx hb hts hown hK hP wd_894 q4 dX7_firstOf_4 ?_
      refine lv_icmp_ge (tgt := 26) hx hb dX7_firstOf_7 (by decide) (fun c5 => ?_) (fun c5 => ?_)
      · replace h := ifp c5 h
        cases h
        exact hexit _ _ _ hP hS (lv_sub hl [2] rfl)
      · replace h := ifn c5 h
        refine lv_aload_n hx hb dX7_firstOf_10 rfl (lv_at hl 0 rfl) ?_
        replace h := bd h
        obtain ⟨x6, q7, h⟩ := h
        refine fg_6_6 hx hb hts hown hK hP wd_893 q7 dX7_firstOf_11 ?_
        refine lv_iload_n hx hb dX7_firstOf_14 rfl (lv_at hl 2 rfl) ?_
        replace h := bd h
        obtain ⟨x8, q9, h⟩ := h
        refine r_aI hx hb hK hP q9 dX7_firstOf_15 ?_
        refine lv_iload_n hx hb dX7_firstOf_16 rfl (lv_at hl 1 rfl) ?_
        refine lv_icmp_eq (tgt := 26) hx hb dX7_firstOf_17 (by decide) (fun c10 => ?_) (fun c10 => ?_)
        · replace h := ifp c10 h
          cases h
          exact hexit _ _ _ hP hS (lv_sub hl [2] rfl)
        · replace h := ifn c10 h
          refine lv_iinc (v := (y2_2 + 1)) (lv' := [(2, .int (y2_2 + 1)), (0, .ref y2_0), (1, .int y2_1)]) hx hb dX7_firstOf_20 hl (k := 2) rfl rfl (by decide) rfl (fun ls hl => ?_)
          refine lv_goto (tgt := 2) hx hb dX7_firstOf_23 (by decide) ?_
          exact ih (y2_2 + 1) _ h _ _ _ hP hS (lv_sub hl [1, 2, 0] rfl) hexit
  replace h := bd h
  obtain ⟨z1, q11, h⟩ := h
  refine L2 S a0 a1 FU 0 z1 q11 _ _ _ hP hS (lv_sub hl [1, 2, 0] rfl) (fun H locs ls hP hS hl => ?_)
  refine lv_iload_n hx hb dX7_firstOf_26 rfl (lv_at hl 0 rfl) ?_
  cases h
  exact e_ip hx hb hlocks hr hS (Nat.le_of_ble_eq_true rfl) (Nat.le_of_ble_eq_true rfl) dX7_firstOf_27
set_option maxRecDepth 100000 in
theorem c_X7_firstOf {p : Program} {l : Launch} {e : Env} {R : Room} {s : State} {m : MethodId} {args : Array Value} {below : List Frame} {meth : Method} {c : Code} {H : Heap} {locs : List Loc} {cells slots : Nat} {Q : State → Prop} {cc : ByteArray} {pc index nL : Nat} {ls : Array Slot} {rest : List Value} {D : va_G} {cy : Nat → ClassId} {A0 : Nat → Prop} {S : St} {H0 : Heap} {own : String} {u : Unit} {a0 : Nat} {a1 : Int32} {r : Int32}  (hF : CallFix p m c cc nL s args ALLW own) (hsz : ls.size = nL) (hK : va_K D vwCl (tyL cy) s) (hP : SP D cy S H) (hS : va_S A0 H0 H locs) (hk : Cond.methodLink own index yX7_firstOf ∈ ALLW) (hR : rm_X7_firstOf.frames + 1 ≤ R.frames ∧ 8 + (3 + 11) + rm_X7_firstOf.locals ≤ R.locals) (h : f_X7_firstOf S a0 a1 = some r) (hc : oO S a0 6 = some u) (hW : (rest.map fun v => v.category).sum ≤ 8) (hdg : decode cc pc = .ok (.invokevirtual index, 3)) (hf : cells + 0 ≤ R.cells ∧ slots + 0 ≤ R.slots)
    (kk : ∀ (H1 : Heap) (locs1 : List Loc), SP D cy S H1 → va_S A0 H0 H1 locs1 → W p l e R s m args below meth c H1 locs1 (cells + 0) (slots + 0) Q (F0 m (pc + 3) ls (.int r :: rest))) : W p l e R s m args below meth c H locs cells slots Q (F0 m pc ls (.int a1 :: .ref a0 :: rest)) := by
  exact k_iVp (As := [.int a1]) hF hsz (m_X7_firstOf l D cy S a0 a1 r h) (cwV_of (n := 1) hF.2.2.2.2 hk wd_983 wd_29 wd_75 wd_984 rfl rfl (by decide +kernel) hR) rfl hK hP hS (ci := 6) hc rfl hW rfl hdg hf kk
/-- VowBlocksModel.different()I -/
def f_X7_different_L4 (S4_ : St) (y4_0 : Nat) : Nat → Int32 → Int32 →  Option (Int32)
  | 0, _, _ => none
  | fu + 1, y4_1, y4_2 =>
    (gI S4_ y4_0 6 7).bind fun x3 =>
    if x3 ≤ y4_2 then
      some y4_1
    else
      (gR S4_ y4_0 6 6).bind fun x6 =>
      (aI S4_ x6 y4_2).bind fun x8 =>
      (oO S4_ y4_0 6).bind fun _ =>
      (f_X7_firstOf S4_ y4_0 x8).bind fun x12 =>
      (
        if x12 = y4_2 then
          some 1
        else
          some 0
      : Option (Int32)).bind fun t13 =>
      f_X7_different_L4 S4_ y4_0 fu (y4_1 + t13) (y4_2 + 1)
def f_X7_different (S : St) (a0 : Nat) : Option (Int32) :=
  (f_X7_different_L4 S a0 FU 0 0).bind fun z1 =>
  some z1
abbrev rm_X7_different : Room := { frames := 1, cells := 0, slots := 0, locals := 22 }
set_option maxHeartbeats 4000000 in
set_option maxRecDepth 100000 in
theorem m_X7_different (l : Launch) (D : va_G) (cy : Nat → ClassId) (S : St) (a0 : Nat) (r : Int32) (h : f_X7_different S a0 = some r) : Met l yX7_different (wsA yX7_different cX7_different 3 (some .int)) rm_X7_different (va_Pc [.ref a0] (PS D cy S)) (va_Qi (fun r' (_ : Unit) => r' = r) (fun _ _ => True) noA) 0 0 noA := by
  refine Met.ofW (cc := cX7_different) (maxL := 3) (ret := (some .int)) (by decide) rfl ?_
  intro p e s m args below meth c s₁ B hml hv
  obtain ⟨rfl, hP, hK⟩ := hv
  have hx := B.exec
  have hb := B.bytes
  have hr := B.returns
  have hts9 := atoms_spec (ws := wsA yX7_different cX7_different 3 (some .int)) B.pre
  have hts : ∀ w ∈ ALLW, w.before _ s = true := fun w h => hts9 w (List.mem_cons_of_mem _ h)
  have hown : s.vm.findClass RX7 = some m.cls := findClass_of_methodNamed B.named
  have hlocks := B.notSynchronized
  have hS : va_S noA s.heap s.heap [] := va_S.rf
  have hl := lv_entry [.ref a0] (n := 3) (Nat.le_of_ble_eq_true rfl)
  rw [lg_entry_eq]
  generalize (lg_sl [.ref a0] ++ List.replicate (3 - (lg_sl [.ref a0]).length) Slot.unset).toArray = ls at hl ⊢
  have hl : lv_has ls 3 [(0, .ref a0)] := hl
  rw [f_X7_different] at h
  refine lv_iconst (v := 0) hx hb dX7_different_0 (by decide) ?_
  refine lv_istore_n (lv' := [(1, .int 0), (0, .ref a0)]) hx hb dX7_different_1 rfl hl (by decide) rfl (fun ls hl => ?_)
  refine lv_iconst (v := 0) hx hb dX7_different_2 (by decide) ?_
  refine lv_istore_n (lv' := [(2, .int 0), (1, .int 0), (0, .ref a0)]) hx hb dX7_different_3 rfl hl (by decide) rfl (fun ls hl => ?_)
  have L4 : ∀ (S4_ : St) (y4_0 : Nat) (fu : Nat) (y4_1 : Int32) (y4_2 : Int32) (res : Int32), f_X7_different_L4 S4_ y4_0 fu y4_1 y4_2 = some res → ∀ (H : Heap) (locs : List Loc) (ls : Array Slot), SP D cy S4_ H → va_S noA s.heap H locs → lv_has ls 3 [(0, .ref y4_0), (1, .int y4_1), (2, .int y4_2)] → (∀ (H : Heap) (locs : List Loc) (ls : Array Slot), SP D cy S4_ H → va_S noA s.heap H locs → lv_has ls 3 [(1, .int res)] → W p l e rm_X7_different s m ([.ref a0] : List Value).toArray below meth c H locs 0 0 (MQ below (va_Qi (fun r' (_ : Unit) => r' = r) (fun _ _ => True) noA) ([.ref a0] : List Value).toArray s 0 0 noA) (F0 m 40 ls [])) → W p l e rm_X7_different s m ([.ref a0] : List Value).toArray below meth c H locs 0 0 (MQ below (va_Qi (fun r' (_ : Unit) => r' = r) (fun _ _ => True) noA) ([.ref a0] : List Value).toArray s 0 0 noA) (F0 m 4 ls []) := by
    intro S4_ y4_0 fu
    induction fu with
    | zero =>
      intro y4_1 y4_2 res h
      rw [f_X7_different_L4] at h
      cases h
    | succ fu ih =>
      intro y4_1 y4_2 res h H locs ls hP hS hl hexit
      rw [f_X7_different_L4] at h
      refine lv_iload_n hx hb dX7_different_4 rfl (lv_at hl 2 rfl) ?_
      refine lv_aload_n hx hb dX7_different_5 rfl (lv_at hl 0 rfl) ?_
      replace h := bd h
      obtain ⟨x3, q4, h⟩ := h
      refine fg_6_7 hx hb hts hown hK hP wd_894 q4 dX7_different_6 ?_
      refine lv_icmp_ge (tgt := 40) hx hb dX7_different_9 (by decide) (fun c5 => ?_) (fun c5 => ?_)
      · replace h := ifp c5 h
        cases h
        exact hexit _ _ _ hP hS (lv_sub hl [1] rfl)
      · replace h := ifn c5 h
        refine lv_iload_n hx hb dX7_different_12 rfl (lv_at hl 1 rfl) ?_
        refine lv_aload_n hx hb dX7_different_13 rfl (lv_at hl 0 rfl) ?_
        refine lv_aload_n hx hb dX7_different_14 rfl (lv_at hl 0 rfl) ?_
        replace h := bd h
        obtain ⟨x6, q7, h⟩ := h
        refine fg_6_6 hx hb hts hown hK hP wd_893 q7 dX7_different_15 ?_
        refine lv_iload_n hx hb dX7_different_18 rfl (lv_at hl 2 rfl) ?_
        replace h := bd h
        obtain ⟨x8, q9, h⟩ := h
        refine r_aI hx hb hK hP q9 dX7_different_19 ?_
        replace h := bd h
        obtain ⟨_, q10, h⟩ := h
        replace h := bd h
        obtain ⟨x12, q11, h⟩ := h
        refine c_X7_firstOf ⟨hx, hb, hml, hown, hts⟩ hl.1 hK hP hS wd_981 ⟨(Nat.le_of_ble_eq_true rfl), (Nat.le_of_ble_eq_true rfl)⟩ q11 q10 (Nat.le_of_ble_eq_true rfl) dX7_different_20 ⟨(Nat.le_of_ble_eq_true rfl), (Nat.le_of_ble_eq_true rfl)⟩ (fun H locs hP hS => ?_)
        refine lv_iload_n hx hb dX7_different_23 rfl (lv_at hl 2 rfl) ?_
        replace h := bd h
        obtain ⟨t13, ht, h⟩ := h
        have K13 : ∀ (H : Heap) (locs : List Loc) (ls : Array Slot), SP D cy S4_ H → va_S noA s.heap H locs → lv_has ls 3 [(0, .ref y4_0), (2, .int y4_2)] → W p l e rm_X7_different s m ([.ref a0] : List Value).toArray below meth c H locs 0 0 (MQ below (va_Qi (fun r' (_ : Unit) => r' = r) (fun _ _ => True) noA) ([.ref a0] : List Value).toArray s 0 0 noA) (F0 m 32 ls [.int t13, .int y4_1]) := by
          intro H locs ls hP hS hl
          refine lv_iadd hx hb dX7_different_32 ?_
          refine lv_istore_n (lv' := [(1, .int (y4_1 + t13)), (0, .ref y4_0), (2, .int y4_2)]) hx hb dX7_different_33 rfl hl (by decide) rfl (fun ls hl => ?_)
          refine lv_iinc (v := (y4_2 + 1)) (lv' := [(2, .int (y4_2 + 1)), (1, .int (y4_1 + t13)), (0, .ref y4_0)]) hx hb dX7_different_34 hl (k := 2) rfl rfl (by decide) rfl (fun ls hl => ?_)
          refine lv_goto (tgt := 4) hx hb dX7_different_37 (by decide) ?_
          exact ih (y4_1 + t13) (y4_2 + 1) _ h _ _ _ hP hS (lv_sub hl [2, 1, 0] rfl) hexit
        replace h := ht
        refine lv_icmp_ne (tgt := 31) hx hb dX7_different_24 (by decide) (fun c14 => ?_) (fun c14 => ?_)
        · replace h := ifn c14 h
          refine lv_iconst (v := 0) hx hb dX7_different_31 (by decide) ?_
          cases h
          exact K13 _ _ _ hP hS (lv_sub hl [0, 2] rfl)
        · replace h := ifp c14 h
          refine lv_iconst (v := 1) hx hb dX7_different_27 (by decide) ?_
          refine lv_goto (tgt := 32) hx hb dX7_different_28 (by decide) ?_
          cases h
          exact K13 _ _ _ hP hS (lv_sub hl [0, 2] rfl)
  replace h := bd h
  obtain ⟨z1, q15, h⟩ := h
  refine L4 S a0 FU 0 0 z1 q15 _ _ _ hP hS (lv_sub hl [2, 1, 0] rfl) (fun H locs ls hP hS hl => ?_)
  refine lv_iload_n hx hb dX7_different_40 rfl (lv_at hl 0 rfl) ?_
  cases h
  exact e_ip hx hb hlocks hr hS (Nat.le_of_ble_eq_true rfl) (Nat.le_of_ble_eq_true rfl) dX7_different_41
set_option maxRecDepth 100000 in
theorem c_X7_different {p : Program} {l : Launch} {e : Env} {R : Room} {s : State} {m : MethodId} {args : Array Value} {below : List Frame} {meth : Method} {c : Code} {H : Heap} {locs : List Loc} {cells slots : Nat} {Q : State → Prop} {cc : ByteArray} {pc index nL : Nat} {ls : Array Slot} {rest : List Value} {D : va_G} {cy : Nat → ClassId} {A0 : Nat → Prop} {S : St} {H0 : Heap} {own : String} {u : Unit} {a0 : Nat} {r : Int32}  (hF : CallFix p m c cc nL s args ALLW own) (hsz : ls.size = nL) (hK : va_K D vwCl (tyL cy) s) (hP : SP D cy S H) (hS : va_S A0 H0 H locs) (hk : Cond.methodLink own index yX7_different ∈ ALLW) (hR : rm_X7_different.frames + 1 ≤ R.frames ∧ 8 + (3 + 11) + rm_X7_different.locals ≤ R.locals) (h : f_X7_different S a0 = some r) (hc : oO S a0 6 = some u) (hW : (rest.map fun v => v.category).sum ≤ 8) (hdg : decode cc pc = .ok (.invokevirtual index, 3)) (hf : cells + 0 ≤ R.cells ∧ slots + 0 ≤ R.slots)
    (kk : ∀ (H1 : Heap) (locs1 : List Loc), SP D cy S H1 → va_S A0 H0 H1 locs1 → W p l e R s m args below meth c H1 locs1 (cells + 0) (slots + 0) Q (F0 m (pc + 3) ls (.int r :: rest))) : W p l e R s m args below meth c H locs cells slots Q (F0 m pc ls (.ref a0 :: rest)) := by
  exact k_iVp (As := []) hF hsz (m_X7_different l D cy S a0 r h) (cwV_of (n := 0) hF.2.2.2.2 hk wd_979 wd_28 wd_75 wd_980 rfl rfl (by decide +kernel) hR) rfl hK hP hS (ci := 6) hc rfl hW rfl hdg hf kk
/-- VowBlocksModel.bitsFor(I)I -/
def f_X7_bitsFor_L2 (y2_0 : Int32) : Nat → Int32 →  Option (Int32)
  | 0, _ => none
  | fu + 1, y2_1 =>
    if y2_0 ≤ (1 <<< (y2_1 &&& 31)) then
      some y2_1
    else
      f_X7_bitsFor_L2 y2_0 fu (y2_1 + 1)
def f_X7_bitsFor (a0 : Int32) : Option (Int32) :=
  (f_X7_bitsFor_L2 a0 FU 0).bind fun z1 =>
  some z1
abbrev rm_X7_bitsFor : Room := { frames := 0, cells := 0, slots := 0, locals := 0 }
set_option maxHeartbeats 4000000 in
set_option maxRecDepth 100000 in
theorem m_X7_bitsFor (l : Launch) (D : va_G) (cy : Nat → ClassId) (S : St) (a0 : Int32) (r : Int32) (h : f_X7_bitsFor a0 = some r) : Met l yX7_bitsFor (wsA yX7_bitsFor cX7_bitsFor 2 (some .int)) rm_X7_bitsFor (va_Pc [.int a0] (PS D cy S)) (va_Qi (fun r' (_ : Unit) => r' = r) (fun _ _ => True) noA) 0 0 noA := by
  refine Met.ofW (cc := cX7_bitsFor) (maxL := 2) (ret := (some .int)) (by decide) rfl ?_
  intro p e s m args below meth c s₁ B hml hv
  obtain ⟨rfl, hP, hK⟩ := hv
  have hx := B.exec
  have hb := B.bytes
  have hr := B.returns
  have hts9 := atoms_spec (ws := wsA yX7_bitsFor cX7_bitsFor 2 (some .int)) B.pre
  have hts : ∀ w ∈ ALLW, w.before _ s = true := fun w h => hts9 w (List.mem_cons_of_mem _ h)
  have hown : s.vm.findClass RX7 = some m.cls := findClass_of_methodNamed B.named
  have hlocks := B.notSynchronized
  have hS : va_S noA s.heap s.heap [] := va_S.rf
  have hl := lv_entry [.int a0] (n := 2) (Nat.le_of_ble_eq_true rfl)
  rw [lg_entry_eq]
  generalize (lg_sl [.int a0] ++ List.replicate (2 - (lg_sl [.int a0]).length) Slot.unset).toArray = ls at hl ⊢
  have hl : lv_has ls 2 [(0, .int a0)] := hl
  rw [f_X7_bitsFor] at h
  refine lv_iconst (v := 0) hx hb dX7_bitsFor_0 (by decide) ?_
  refine lv_istore_n (lv' := [(1, .int 0), (0, .int a0)]) hx hb dX7_bitsFor_1 rfl hl (by decide) rfl (fun ls hl => ?_)
  have L2 : ∀ (y2_0 : Int32) (fu : Nat) (y2_1 : Int32) (res : Int32), f_X7_bitsFor_L2 y2_0 fu y2_1 = some res → ∀ (H : Heap) (locs : List Loc) (ls : Array Slot), SP D cy S H → va_S noA s.heap H locs → lv_has ls 2 [(0, .int y2_0), (1, .int y2_1)] → (∀ (H : Heap) (locs : List Loc) (ls : Array Slot), SP D cy S H → va_S noA s.heap H locs → lv_has ls 2 [(1, .int res)] → W p l e rm_X7_bitsFor s m ([.int a0] : List Value).toArray below meth c H locs 0 0 (MQ below (va_Qi (fun r' (_ : Unit) => r' = r) (fun _ _ => True) noA) ([.int a0] : List Value).toArray s 0 0 noA) (F0 m 15 ls [])) → W p l e rm_X7_bitsFor s m ([.int a0] : List Value).toArray below meth c H locs 0 0 (MQ below (va_Qi (fun r' (_ : Unit) => r' = r) (fun _ _ => True) noA) ([.int a0] : List Value).toArray s 0 0 noA) (F0 m 2 ls []) := by
    intro y2_0 fu
    induction fu with
    | zero =>
      intro y2_1 res h
      rw [f_X7_bitsFor_L2] at h
      cases h
    | succ fu ih =>
      intro y2_1 res h H locs ls hP hS hl hexit
      rw [f_X7_bitsFor_L2] at h
      refine lv_iload_n hx hb dX7_bitsFor_2 rfl (lv_at hl 0 rfl) ?_
      refine lv_iconst (v := 1) hx hb dX7_bitsFor_3 (by decide) ?_
      refine lv_iload_n hx hb dX7_bitsFor_4 rfl (lv_at hl 1 rfl) ?_
      refine lv_ishl hx hb dX7_bitsFor_5 ?_
      refine lv_icmp_le (tgt := 15) hx hb dX7_bitsFor_6 (by decide) (fun c3 => ?_) (fun c3 => ?_)
      · replace h := ifp c3 h
        cases h
        exact hexit _ _ _ hP hS (lv_sub hl [1] rfl)
      · replace h := ifn c3 h
        refine lv_iinc (v := (y2_1 + 1)) (lv' := [(1, .int (y2_1 + 1)), (0, .int y2_0)]) hx hb dX7_bitsFor_9 hl (k := 1) rfl rfl (by decide) rfl (fun ls hl => ?_)
        refine lv_goto (tgt := 2) hx hb dX7_bitsFor_12 (by decide) ?_
        exact ih (y2_1 + 1) _ h _ _ _ hP hS (lv_sub hl [1, 0] rfl) hexit
  replace h := bd h
  obtain ⟨z1, q4, h⟩ := h
  refine L2 a0 FU 0 z1 q4 _ _ _ hP hS (lv_sub hl [1, 0] rfl) (fun H locs ls hP hS hl => ?_)
  refine lv_iload_n hx hb dX7_bitsFor_15 rfl (lv_at hl 0 rfl) ?_
  cases h
  exact e_ip hx hb hlocks hr hS (Nat.le_of_ble_eq_true rfl) (Nat.le_of_ble_eq_true rfl) dX7_bitsFor_16
set_option maxRecDepth 100000 in
theorem c_X7_bitsFor {p : Program} {l : Launch} {e : Env} {R : Room} {s : State} {m : MethodId} {args : Array Value} {below : List Frame} {meth : Method} {c : Code} {H : Heap} {locs : List Loc} {cells slots : Nat} {Q : State → Prop} {cc : ByteArray} {pc index nL : Nat} {ls : Array Slot} {rest : List Value} {D : va_G} {cy : Nat → ClassId} {A0 : Nat → Prop} {S : St} {H0 : Heap} {own : String} {a0 : Int32} {r : Int32}  (hF : CallFix p m c cc nL s args ALLW own) (hsz : ls.size = nL) (hK : va_K D vwCl (tyL cy) s) (hP : SP D cy S H) (hS : va_S A0 H0 H locs) (hk : Cond.methodLink own index yX7_bitsFor ∈ ALLW) (hR : rm_X7_bitsFor.frames + 1 ≤ R.frames ∧ 8 + (2 + 11) + rm_X7_bitsFor.locals ≤ R.locals) (h : f_X7_bitsFor a0 = some r) (hW : (rest.map fun v => v.category).sum ≤ 8) (hdg : decode cc pc = .ok (.invokestatic index, 3)) (hf : cells + 0 ≤ R.cells ∧ slots + 0 ≤ R.slots)
    (kk : ∀ (H1 : Heap) (locs1 : List Loc), SP D cy S H1 → va_S A0 H0 H1 locs1 → W p l e R s m args below meth c H1 locs1 (cells + 0) (slots + 0) Q (F0 m (pc + 3) ls (.int r :: rest))) : W p l e R s m args below meth c H locs cells slots Q (F0 m pc ls (.int a0 :: rest)) := by
  exact k_iSp (As := [.int a0]) hF hsz (m_X7_bitsFor l D cy S a0 r h) (cwS_of (n := 1) hF.2.2.2.2 hk wd_986 wd_75 wd_987 rfl rfl (by decide +kernel) hR) rfl hK hP hS hW rfl hdg hf kk
/-- VowBlocksModel.stepBits()I -/
def f_X7_stepBits_L28 (S28_ : St) (y28_0 : Nat) (y28_2 : Int32) (y28_3 : Int32) : Nat → Int32 →  Option (Int32)
  | 0, _ => none
  | fu + 1, y28_1 =>
    if y28_1 = 0 then
      if y28_3 = 0 then
        some y28_1
      else
        f_X7_stepBits_L28 S28_ y28_0 y28_2 y28_3 fu (y28_1 + 1)
    else
      (f_X7_within y28_3 (-(1 <<< ((y28_1 - 1) &&& 31))) ((1 <<< ((y28_1 - 1) &&& 31)) - 1)).bind fun x18 =>
      if x18 = 0 then
        f_X7_stepBits_L28 S28_ y28_0 y28_2 y28_3 fu (y28_1 + 1)
      else
        some y28_1
def f_X7_stepBits_L4 (S4_ : St) (y4_0 : Nat) : Nat → Int32 → Int32 →  Option (Int32)
  | 0, _, _ => none
  | fu + 1, y4_1, y4_2 =>
    (gI S4_ y4_0 6 7).bind fun x3 =>
    if x3 ≤ y4_2 then
      some y4_1
    else
      (gR S4_ y4_0 6 6).bind fun x6 =>
      (aI S4_ x6 y4_2).bind fun x8 =>
      (gR S4_ y4_0 6 6).bind fun x10 =>
      (aI S4_ x10 (y4_2 - 1)).bind fun x12 =>
      (f_X7_stepBits_L28 S4_ y4_0 y4_2 (x8 - x12) FU y4_1).bind fun z14 =>
      f_X7_stepBits_L4 S4_ y4_0 fu z14 (y4_2 + 1)
def f_X7_stepBits (S : St) (a0 : Nat) : Option (Int32) :=
  (f_X7_stepBits_L4 S a0 FU 0 1).bind fun z1 =>
  some z1
abbrev rm_X7_stepBits : Room := { frames := 1, cells := 0, slots := 0, locals := 22 }
set_option maxHeartbeats 4000000 in
set_option maxRecDepth 100000 in
theorem m_X7_stepBits (l : Launch) (D : va_G) (cy : Nat → ClassId) (S : St) (a0 : Nat) (r : Int32) (h : f_X7_stepBits S a0 = some r) : Met l yX7_stepBits (wsA yX7_stepBits cX7_stepBits 4 (some .int)) rm_X7_stepBits (va_Pc [.ref a0] (PS D cy S)) (va_Qi (fun r' (_ : Unit) => r' = r) (fun _ _ => True) noA) 0 0 noA := by
  refine Met.ofW (cc := cX7_stepBits) (maxL := 4) (ret := (some .int)) (by decide) rfl ?_
  intro p e s m args below meth c s₁ B hml hv
  obtain ⟨rfl, hP, hK⟩ := hv
  have hx := B.exec
  have hb := B.bytes
  have hr := B.returns
  have hts9 := atoms_spec (ws := wsA yX7_stepBits cX7_stepBits 4 (some .int)) B.pre
  have hts : ∀ w ∈ ALLW, w.before _ s = true := fun w h => hts9 w (List.mem_cons_of_mem _ h)
  have hown : s.vm.findClass RX7 = some m.cls := findClass_of_methodNamed B.named
  have hlocks := B.notSynchronized
  have hS : va_S noA s.heap s.heap [] := va_S.rf
  have hl := lv_entry [.ref a0] (n := 4) (Nat.le_of_ble_eq_true rfl)
  rw [lg_entry_eq]
  generalize (lg_sl [.ref a0] ++ List.replicate (4 - (lg_sl [.ref a0]).length) Slot.unset).toArray = ls at hl ⊢
  have hl : lv_has ls 4 [(0, .ref a0)] := hl
  rw [f_X7_stepBits] at h
  refine lv_iconst (v := 0) hx hb dX7_stepBits_0 (by decide) ?_
  refine lv_istore_n (lv' := [(1, .int 0), (0, .ref a0)]) hx hb dX7_stepBits_1 rfl hl (by decide) rfl (fun ls hl => ?_)
  refine lv_iconst (v := 1) hx hb dX7_stepBits_2 (by decide) ?_
  refine lv_istore_n (lv' := [(2, .int 1), (1, .int 0), (0, .ref a0)]) hx hb dX7_stepBits_3 rfl hl (by decide) rfl (fun ls hl => ?_)
  have L4 : ∀ (S4_ : St) (y4_0 : Nat) (fu : Nat) (y4_1 : Int32) (y4_2 : Int32) (res : Int32), f_X7_stepBits_L4 S4_ y4_0 fu y4_1 y4_2 = some res → ∀ (H : Heap) (locs : List Loc) (ls : Array Slot), SP D cy S4_ H → va_S noA s.heap H locs → lv_has ls 4 [(0, .ref y4_0), (1, .int y4_1), (2, .int y4_2)] → (∀ (H : Heap) (locs : List Loc) (ls : Array Slot), SP D cy S4_ H → va_S noA s.heap H locs → lv_has ls 4 [(1, .int res)] → W p l e rm_X7_stepBits s m ([.ref a0] : List Value).toArray below meth c H locs 0 0 (MQ below (va_Qi (fun r' (_ : Unit) => r' = r) (fun _ _ => True) noA) ([.ref a0] : List Value).toArray s 0 0 noA) (F0 m 71 ls [])) → W p l e rm_X7_stepBits s m ([.ref a0] : List Value).toArray below meth c H locs 0 0 (MQ below (va_Qi (fun r' (_ : Unit) => r' = r) (fun _ _ => True) noA) ([.ref a0] : List Value).toArray s 0 0 noA) (F0 m 4 ls []) := by
    intro S4_ y4_0 fu
    induction fu with
    | zero =>
      intro y4_1 y4_2 res h
      rw [f_X7_stepBits_L4] at h
      cases h
    | succ fu ih =>
      intro y4_1 y4_2 res h H locs ls hP hS hl hexit
      rw [f_X7_stepBits_L4] at h
      refine lv_iload_n hx hb dX7_stepBits_4 rfl (lv_at hl 2 rfl) ?_
      refine lv_aload_n hx hb dX7_stepBits_5 rfl (lv_at hl 0 rfl) ?_
      replace h := bd h
      obtain ⟨x3, q4, h⟩ := h
      refine fg_6_7 hx hb hts hown hK hP wd_894 q4 dX7_stepBits_6 ?_
      refine lv_icmp_ge (tgt := 71) hx hb dX7_stepBits_9 (by decide) (fun c5 => ?_) (fun c5 => ?_)
      · replace h := ifp c5 h
        cases h
        exact hexit _ _ _ hP hS (lv_sub hl [1] rfl)
      · replace h := ifn c5 h
        refine lv_aload_n hx hb dX7_stepBits_12 rfl (lv_at hl 0 rfl) ?_
        replace h := bd h
        obtain ⟨x6, q7, h⟩ := h
        refine fg_6_6 hx hb hts hown hK hP wd_893 q7 dX7_stepBits_13 ?_
        refine lv_iload_n hx hb dX7_stepBits_16 rfl (lv_at hl 2 rfl) ?_
        replace h := bd h
        obtain ⟨x8, q9, h⟩ := h
        refine r_aI hx hb hK hP q9 dX7_stepBits_17 ?_
        refine lv_aload_n hx hb dX7_stepBits_18 rfl (lv_at hl 0 rfl) ?_
        replace h := bd h
        obtain ⟨x10, q11, h⟩ := h
        refine fg_6_6 hx hb hts hown hK hP wd_893 q11 dX7_stepBits_19 ?_
        refine lv_iload_n hx hb dX7_stepBits_22 rfl (lv_at hl 2 rfl) ?_
        refine lv_iconst (v := 1) hx hb dX7_stepBits_23 (by decide) ?_
        refine lv_isub hx hb dX7_stepBits_24 ?_
        replace h := bd h
        obtain ⟨x12, q13, h⟩ := h
        refine r_aI hx hb hK hP q13 dX7_stepBits_25 ?_
        refine lv_isub hx hb dX7_stepBits_26 ?_
        refine lv_istore_n (lv' := [(3, .int (x8 - x12)), (0, .ref y4_0), (1, .int y4_1), (2, .int y4_2)]) hx hb dX7_stepBits_27 rfl hl (by decide) rfl (fun ls hl => ?_)
        have L28 : ∀ (S28_ : St) (y28_0 : Nat) (y28_2 : Int32) (y28_3 : Int32) (fu : Nat) (y28_1 : Int32) (res : Int32), f_X7_stepBits_L28 S28_ y28_0 y28_2 y28_3 fu y28_1 = some res → ∀ (H : Heap) (locs : List Loc) (ls : Array Slot), SP D cy S28_ H → va_S noA s.heap H locs → lv_has ls 4 [(0, .ref y28_0), (1, .int y28_1), (2, .int y28_2), (3, .int y28_3)] → (∀ (H : Heap) (locs : List Loc) (ls : Array Slot), SP D cy S28_ H → va_S noA s.heap H locs → lv_has ls 4 [(0, .ref y28_0), (1, .int res), (2, .int y28_2)] → W p l e rm_X7_stepBits s m ([.ref a0] : List Value).toArray below meth c H locs 0 0 (MQ below (va_Qi (fun r' (_ : Unit) => r' = r) (fun _ _ => True) noA) ([.ref a0] : List Value).toArray s 0 0 noA) (F0 m 65 ls [])) → W p l e rm_X7_stepBits s m ([.ref a0] : List Value).toArray below meth c H locs 0 0 (MQ below (va_Qi (fun r' (_ : Unit) => r' = r) (fun _ _ => True) noA) ([.ref a0] : List Value).toArray s 0 0 noA) (F0 m 28 ls []) := by
          intro S28_ y28_0 y28_2 y28_3 fu
          induction fu with
          | zero =>
            intro y28_1 res h
            rw [f_X7_stepBits_L28] at h
            cases h
          | succ fu ih =>
            intro y28_1 res h H locs ls hP hS hl hexit
            rw [f_X7_stepBits_L28] at h
            refine lv_iload_n hx hb dX7_stepBits_28 rfl (lv_at hl 1 rfl) ?_
            refine lv_if_ne (tgt := 39) hx hb dX7_stepBits_29 (by decide) (fun c16 => ?_) (fun c16 => ?_)
            · replace h := ifn c16 h
              refine lv_iload_n hx hb dX7_stepBits_39 rfl (lv_at hl 3 rfl) ?_
              refine lv_iconst (v := 1) hx hb dX7_stepBits_40 (by decide) ?_
              refine lv_iload_n hx hb dX7_stepBits_41 rfl (lv_at hl 1 rfl) ?_
              refine lv_iconst (v := 1) hx hb dX7_stepBits_42 (by decide) ?_
              refine lv_isub hx hb dX7_stepBits_43 ?_
              refine lv_ishl hx hb dX7_stepBits_44 ?_
              refine lv_ineg hx hb dX7_stepBits_45 ?_
              refine lv_iconst (v := 1) hx hb dX7_stepBits_46 (by decide) ?_
              refine lv_iload_n hx hb dX7_stepBits_47 rfl (lv_at hl 1 rfl) ?_
              refine lv_iconst (v := 1) hx hb dX7_stepBits_48 (by decide) ?_
              refine lv_isub hx hb dX7_stepBits_49 ?_
              refine lv_ishl hx hb dX7_stepBits_50 ?_
              refine lv_iconst (v := 1) hx hb dX7_stepBits_51 (by decide) ?_
              refine lv_isub hx hb dX7_stepBits_52 ?_
              replace h := bd h
              obtain ⟨x18, q17, h⟩ := h
              refine c_X7_within ⟨hx, hb, hml, hown, hts⟩ hl.1 hK hP hS wd_938 ⟨(Nat.le_of_ble_eq_true rfl), (Nat.le_of_ble_eq_true rfl)⟩ q17 (Nat.le_of_ble_eq_true rfl) dX7_stepBits_53 ⟨(Nat.le_of_ble_eq_true rfl), (Nat.le_of_ble_eq_true rfl)⟩ (fun H locs hP hS => ?_)
              refine lv_if_ne (tgt := 65) hx hb dX7_stepBits_56 (by decide) (fun c19 => ?_) (fun c19 => ?_)
              · replace h := ifn c19 h
                cases h
                exact hexit _ _ _ hP hS (lv_sub hl [0, 1, 2] rfl)
              · replace h := ifp c19 h
                refine lv_iinc (v := (y28_1 + 1)) (lv' := [(1, .int (y28_1 + 1)), (0, .ref y28_0), (2, .int y28_2), (3, .int y28_3)]) hx hb dX7_stepBits_59 hl (k := 1) rfl rfl (by decide) rfl (fun ls hl => ?_)
                refine lv_goto (tgt := 28) hx hb dX7_stepBits_62 (by decide) ?_
                exact ih (y28_1 + 1) _ h _ _ _ hP hS (lv_sub hl [1, 0, 2, 3] rfl) hexit
            · replace h := ifp c16 h
              refine lv_iload_n hx hb dX7_stepBits_32 rfl (lv_at hl 3 rfl) ?_
              refine lv_if_eq (tgt := 65) hx hb dX7_stepBits_33 (by decide) (fun c20 => ?_) (fun c20 => ?_)
              · replace h := ifp c20 h
                cases h
                exact hexit _ _ _ hP hS (lv_sub hl [0, 1, 2] rfl)
              · replace h := ifn c20 h
                refine lv_goto (tgt := 59) hx hb dX7_stepBits_36 (by decide) ?_
                refine lv_iinc (v := (y28_1 + 1)) (lv' := [(1, .int (y28_1 + 1)), (0, .ref y28_0), (2, .int y28_2), (3, .int y28_3)]) hx hb dX7_stepBits_59 hl (k := 1) rfl rfl (by decide) rfl (fun ls hl => ?_)
                refine lv_goto (tgt := 28) hx hb dX7_stepBits_62 (by decide) ?_
                exact ih (y28_1 + 1) _ h _ _ _ hP hS (lv_sub hl [1, 0, 2, 3] rfl) hexit
        replace h := bd h
        obtain ⟨z14, q21, h⟩ := h
        refine L28 S4_ y4_0 y4_2 (x8 - x12) FU y4_1 z14 q21 _ _ _ hP hS (lv_sub hl [1, 2, 3, 0] rfl) (fun H locs ls hP hS hl => ?_)
        refine lv_iinc (v := (y4_2 + 1)) (lv' := [(2, .int (y4_2 + 1)), (0, .ref y4_0), (1, .int z14)]) hx hb dX7_stepBits_65 hl (k := 2) rfl rfl (by decide) rfl (fun ls hl => ?_)
        refine lv_goto (tgt := 4) hx hb dX7_stepBits_68 (by decide) ?_
        exact ih z14 (y4_2 + 1) _ h _ _ _ hP hS (lv_sub hl [1, 2, 0] rfl) hexit
  replace h := bd h
  obtain ⟨z1, q22, h⟩ := h
  refine L4 S a0 FU 0 1 z1 q22 _ _ _ hP hS (lv_sub hl [2, 1, 0] rfl) (fun H locs ls hP hS hl => ?_)
  refine lv_iload_n hx hb dX7_stepBits_71 rfl (lv_at hl 0 rfl) ?_
  cases h
  exact e_ip hx hb hlocks hr hS (Nat.le_of_ble_eq_true rfl) (Nat.le_of_ble_eq_true rfl) dX7_stepBits_72
set_option maxRecDepth 100000 in
theorem c_X7_stepBits {p : Program} {l : Launch} {e : Env} {R : Room} {s : State} {m : MethodId} {args : Array Value} {below : List Frame} {meth : Method} {c : Code} {H : Heap} {locs : List Loc} {cells slots : Nat} {Q : State → Prop} {cc : ByteArray} {pc index nL : Nat} {ls : Array Slot} {rest : List Value} {D : va_G} {cy : Nat → ClassId} {A0 : Nat → Prop} {S : St} {H0 : Heap} {own : String} {u : Unit} {a0 : Nat} {r : Int32}  (hF : CallFix p m c cc nL s args ALLW own) (hsz : ls.size = nL) (hK : va_K D vwCl (tyL cy) s) (hP : SP D cy S H) (hS : va_S A0 H0 H locs) (hk : Cond.methodLink own index yX7_stepBits ∈ ALLW) (hR : rm_X7_stepBits.frames + 1 ≤ R.frames ∧ 8 + (4 + 11) + rm_X7_stepBits.locals ≤ R.locals) (h : f_X7_stepBits S a0 = some r) (hc : oO S a0 6 = some u) (hW : (rest.map fun v => v.category).sum ≤ 8) (hdg : decode cc pc = .ok (.invokevirtual index, 3)) (hf : cells + 0 ≤ R.cells ∧ slots + 0 ≤ R.slots)
    (kk : ∀ (H1 : Heap) (locs1 : List Loc), SP D cy S H1 → va_S A0 H0 H1 locs1 → W p l e R s m args below meth c H1 locs1 (cells + 0) (slots + 0) Q (F0 m (pc + 3) ls (.int r :: rest))) : W p l e R s m args below meth c H locs cells slots Q (F0 m pc ls (.ref a0 :: rest)) := by
  exact k_iVp (As := []) hF hsz (m_X7_stepBits l D cy S a0 r h) (cwV_of (n := 0) hF.2.2.2.2 hk wd_990 wd_30 wd_75 wd_991 rfl rfl (by decide +kernel) hR) rfl hK hP hS (ci := 6) hc rfl hW rfl hdg hf kk
/-- VowBlocksModel.timesOf(I)I -/
def f_X7_timesOf_L4 (S4_ : St) (y4_0 : Nat) (y4_1 : Int32) : Nat → Int32 → Int32 →  Option (Int32)
  | 0, _, _ => none
  | fu + 1, y4_2, y4_3 =>
    (gI S4_ y4_0 6 7).bind fun x3 =>
    if x3 ≤ y4_3 then
      some y4_2
    else
      (gR S4_ y4_0 6 6).bind fun x6 =>
      (aI S4_ x6 y4_3).bind fun x8 =>
      (
        if x8 = y4_1 then
          some 1
        else
          some 0
      : Option (Int32)).bind fun t10 =>
      f_X7_timesOf_L4 S4_ y4_0 y4_1 fu (y4_2 + t10) (y4_3 + 1)
def f_X7_timesOf (S : St) (a0 : Nat) (a1 : Int32) : Option (Int32) :=
  (f_X7_timesOf_L4 S a0 a1 FU 0 0).bind fun z1 =>
  some z1
abbrev rm_X7_timesOf : Room := { frames := 0, cells := 0, slots := 0, locals := 0 }
set_option maxHeartbeats 4000000 in
set_option maxRecDepth 100000 in
theorem m_X7_timesOf (l : Launch) (D : va_G) (cy : Nat → ClassId) (S : St) (a0 : Nat) (a1 : Int32) (r : Int32) (h : f_X7_timesOf S a0 a1 = some r) : Met l yX7_timesOf (wsA yX7_timesOf cX7_timesOf 4 (some .int)) rm_X7_timesOf (va_Pc [.ref a0, .int a1] (PS D cy S)) (va_Qi (fun r' (_ : Unit) => r' = r) (fun _ _ => True) noA) 0 0 noA := by
  refine Met.ofW (cc := cX7_timesOf) (maxL := 4) (ret := (some .int)) (by decide) rfl ?_
  intro p e s m args below meth c s₁ B hml hv
  obtain ⟨rfl, hP, hK⟩ := hv
  have hx := B.exec
  have hb := B.bytes
  have hr := B.returns
  have hts9 := atoms_spec (ws := wsA yX7_timesOf cX7_timesOf 4 (some .int)) B.pre
  have hts : ∀ w ∈ ALLW, w.before _ s = true := fun w h => hts9 w (List.mem_cons_of_mem _ h)
  have hown : s.vm.findClass RX7 = some m.cls := findClass_of_methodNamed B.named
  have hlocks := B.notSynchronized
  have hS : va_S noA s.heap s.heap [] := va_S.rf
  have hl := lv_entry [.ref a0, .int a1] (n := 4) (Nat.le_of_ble_eq_true rfl)
  rw [lg_entry_eq]
  generalize (lg_sl [.ref a0, .int a1] ++ List.replicate (4 - (lg_sl [.ref a0, .int a1]).length) Slot.unset).toArray = ls at hl ⊢
  have hl : lv_has ls 4 [(0, .ref a0), (1, .int a1)] := hl
  rw [f_X7_timesOf] at h
  refine lv_iconst (v := 0) hx hb dX7_timesOf_0 (by decide) ?_
  refine lv_istore_n (lv' := [(2, .int 0), (0, .ref a0), (1, .int a1)]) hx hb dX7_timesOf_1 rfl hl (by decide) rfl (fun ls hl => ?_)
  refine lv_iconst (v := 0) hx hb dX7_timesOf_2 (by decide) ?_
  refine lv_istore_n (lv' := [(3, .int 0), (2, .int 0), (0, .ref a0), (1, .int a1)]) hx hb dX7_timesOf_3 rfl hl (by decide) rfl (fun ls hl => ?_)
  have L4 : ∀ (S4_ : St) (y4_0 : Nat) (y4_1 : Int32) (fu : Nat) (y4_2 : Int32) (y4_3 : Int32) (res : Int32), f_X7_timesOf_L4 S4_ y4_0 y4_1 fu y4_2 y4_3 = some res → ∀ (H : Heap) (locs : List Loc) (ls : Array Slot), SP D cy S4_ H → va_S noA s.heap H locs → lv_has ls 4 [(0, .ref y4_0), (1, .int y4_1), (2, .int y4_2), (3, .int y4_3)] → (∀ (H : Heap) (locs : List Loc) (ls : Array Slot), SP D cy S4_ H → va_S noA s.heap H locs → lv_has ls 4 [(2, .int res)] → W p l e rm_X7_timesOf s m ([.ref a0, .int a1] : List Value).toArray below meth c H locs 0 0 (MQ below (va_Qi (fun r' (_ : Unit) => r' = r) (fun _ _ => True) noA) ([.ref a0, .int a1] : List Value).toArray s 0 0 noA) (F0 m 36 ls [])) → W p l e rm_X7_timesOf s m ([.ref a0, .int a1] : List Value).toArray below meth c H locs 0 0 (MQ below (va_Qi (fun r' (_ : Unit) => r' = r) (fun _ _ => True) noA) ([.ref a0, .int a1] : List Value).toArray s 0 0 noA) (F0 m 4 ls []) := by
    intro S4_ y4_0 y4_1 fu
    induction fu with
    | zero =>
      intro y4_2 y4_3 res h
      rw [f_X7_timesOf_L4] at h
      cases h
    | succ fu ih =>
      intro y4_2 y4_3 res h H locs ls hP hS hl hexit
      rw [f_X7_timesOf_L4] at h
      refine lv_iload_n hx hb dX7_timesOf_4 rfl (lv_at hl 3 rfl) ?_
      refine lv_aload_n hx hb dX7_timesOf_5 rfl (lv_at hl 0 rfl) ?_
      replace h := bd h
      obtain ⟨x3, q4, h⟩ := h
      refine fg_6_7 hx hb hts hown hK hP wd_894 q4 dX7_timesOf_6 ?_
      refine lv_icmp_ge (tgt := 36) hx hb dX7_timesOf_9 (by decide) (fun c5 => ?_) (fun c5 => ?_)
      · replace h := ifp c5 h
        cases h
        exact hexit _ _ _ hP hS (lv_sub hl [2] rfl)
      · replace h := ifn c5 h
        refine lv_iload_n hx hb dX7_timesOf_12 rfl (lv_at hl 2 rfl) ?_
        refine lv_aload_n hx hb dX7_timesOf_13 rfl (lv_at hl 0 rfl) ?_
        replace h := bd h
        obtain ⟨x6, q7, h⟩ := h
        refine fg_6_6 hx hb hts hown hK hP wd_893 q7 dX7_timesOf_14 ?_
        refine lv_iload_n hx hb dX7_timesOf_17 rfl (lv_at hl 3 rfl) ?_
        replace h := bd h
        obtain ⟨x8, q9, h⟩ := h
        refine r_aI hx hb hK hP q9 dX7_timesOf_18 ?_
        refine lv_iload_n hx hb dX7_timesOf_19 rfl (lv_at hl 1 rfl) ?_
        replace h := bd h
        obtain ⟨t10, ht, h⟩ := h
        have K10 : ∀ (H : Heap) (locs : List Loc) (ls : Array Slot), SP D cy S4_ H → va_S noA s.heap H locs → lv_has ls 4 [(0, .ref y4_0), (1, .int y4_1), (3, .int y4_3)] → W p l e rm_X7_timesOf s m ([.ref a0, .int a1] : List Value).toArray below meth c H locs 0 0 (MQ below (va_Qi (fun r' (_ : Unit) => r' = r) (fun _ _ => True) noA) ([.ref a0, .int a1] : List Value).toArray s 0 0 noA) (F0 m 28 ls [.int t10, .int y4_2]) := by
          intro H locs ls hP hS hl
          refine lv_iadd hx hb dX7_timesOf_28 ?_
          refine lv_istore_n (lv' := [(2, .int (y4_2 + t10)), (0, .ref y4_0), (1, .int y4_1), (3, .int y4_3)]) hx hb dX7_timesOf_29 rfl hl (by decide) rfl (fun ls hl => ?_)
          refine lv_iinc (v := (y4_3 + 1)) (lv' := [(3, .int (y4_3 + 1)), (2, .int (y4_2 + t10)), (0, .ref y4_0), (1, .int y4_1)]) hx hb dX7_timesOf_30 hl (k := 3) rfl rfl (by decide) rfl (fun ls hl => ?_)
          refine lv_goto (tgt := 4) hx hb dX7_timesOf_33 (by decide) ?_
          exact ih (y4_2 + t10) (y4_3 + 1) _ h _ _ _ hP hS (lv_sub hl [2, 3, 1, 0] rfl) hexit
        replace h := ht
        refine lv_icmp_ne (tgt := 27) hx hb dX7_timesOf_20 (by decide) (fun c11 => ?_) (fun c11 => ?_)
        · replace h := ifn c11 h
          refine lv_iconst (v := 0) hx hb dX7_timesOf_27 (by decide) ?_
          cases h
          exact K10 _ _ _ hP hS (lv_sub hl [0, 1, 3] rfl)
        · replace h := ifp c11 h
          refine lv_iconst (v := 1) hx hb dX7_timesOf_23 (by decide) ?_
          refine lv_goto (tgt := 28) hx hb dX7_timesOf_24 (by decide) ?_
          cases h
          exact K10 _ _ _ hP hS (lv_sub hl [0, 1, 3] rfl)
  replace h := bd h
  obtain ⟨z1, q12, h⟩ := h
  refine L4 S a0 a1 FU 0 0 z1 q12 _ _ _ hP hS (lv_sub hl [2, 3, 1, 0] rfl) (fun H locs ls hP hS hl => ?_)
  refine lv_iload_n hx hb dX7_timesOf_36 rfl (lv_at hl 0 rfl) ?_
  cases h
  exact e_ip hx hb hlocks hr hS (Nat.le_of_ble_eq_true rfl) (Nat.le_of_ble_eq_true rfl) dX7_timesOf_37
set_option maxRecDepth 100000 in
theorem c_X7_timesOf {p : Program} {l : Launch} {e : Env} {R : Room} {s : State} {m : MethodId} {args : Array Value} {below : List Frame} {meth : Method} {c : Code} {H : Heap} {locs : List Loc} {cells slots : Nat} {Q : State → Prop} {cc : ByteArray} {pc index nL : Nat} {ls : Array Slot} {rest : List Value} {D : va_G} {cy : Nat → ClassId} {A0 : Nat → Prop} {S : St} {H0 : Heap} {own : String} {u : Unit} {a0 : Nat} {a1 : Int32} {r : Int32}  (hF : CallFix p m c cc nL s args ALLW own) (hsz : ls.size = nL) (hK : va_K D vwCl (tyL cy) s) (hP : SP D cy S H) (hS : va_S A0 H0 H locs) (hk : Cond.methodLink own index yX7_timesOf ∈ ALLW) (hR : rm_X7_timesOf.frames + 1 ≤ R.frames ∧ 8 + (4 + 11) + rm_X7_timesOf.locals ≤ R.locals) (h : f_X7_timesOf S a0 a1 = some r) (hc : oO S a0 6 = some u) (hW : (rest.map fun v => v.category).sum ≤ 8) (hdg : decode cc pc = .ok (.invokevirtual index, 3)) (hf : cells + 0 ≤ R.cells ∧ slots + 0 ≤ R.slots)
    (kk : ∀ (H1 : Heap) (locs1 : List Loc), SP D cy S H1 → va_S A0 H0 H1 locs1 → W p l e R s m args below meth c H1 locs1 (cells + 0) (slots + 0) Q (F0 m (pc + 3) ls (.int r :: rest))) : W p l e R s m args below meth c H locs cells slots Q (F0 m pc ls (.int a1 :: .ref a0 :: rest)) := by
  exact k_iVp (As := [.int a1]) hF hsz (m_X7_timesOf l D cy S a0 a1 r h) (cwV_of (n := 1) hF.2.2.2.2 hk wd_1002 wd_33 wd_75 wd_1003 rfl rfl (by decide +kernel) hR) rfl hK hP hS (ci := 6) hc rfl hW rfl hdg hf kk
/-- VowBlocksModel.commonOne()I -/
def f_X7_commonOne_L9 (S9_ : St) (y9_0 : Nat) : Nat → Int32 → Int32 →  Option (Int32)
  | 0, _, _ => none
  | fu + 1, y9_1, y9_2 =>
    (gI S9_ y9_0 6 7).bind fun x7 =>
    if x7 ≤ y9_2 then
      some y9_1
    else
      (gR S9_ y9_0 6 6).bind fun x10 =>
      (aI S9_ x10 y9_2).bind fun x12 =>
      (oO S9_ y9_0 6).bind fun _ =>
      (f_X7_timesOf S9_ y9_0 x12).bind fun x16 =>
      (oO S9_ y9_0 6).bind fun _ =>
      (f_X7_timesOf S9_ y9_0 y9_1).bind fun x19 =>
      (
        if 0 < (x16 - x19) then
          (gR S9_ y9_0 6 6).bind fun x22 =>
          (aI S9_ x22 y9_2).bind fun x24 =>
          some x24
        else
          if (x16 - x19) = 0 then
            (gR S9_ y9_0 6 6).bind fun x27 =>
            (aI S9_ x27 y9_2).bind fun x29 =>
            if y9_1 ≤ x29 then
              some y9_1
            else
              (gR S9_ y9_0 6 6).bind fun x32 =>
              (aI S9_ x32 y9_2).bind fun x34 =>
              some x34
          else
            some y9_1
      : Option (Int32)).bind fun t20 =>
      f_X7_commonOne_L9 S9_ y9_0 fu t20 (y9_2 + 1)
def f_X7_commonOne (S : St) (a0 : Nat) : Option (Int32) :=
  (gR S a0 6 6).bind fun x1 =>
  (aI S x1 0).bind fun x3 =>
  (f_X7_commonOne_L9 S a0 FU x3 1).bind fun z5 =>
  some z5
abbrev rm_X7_commonOne : Room := { frames := 1, cells := 0, slots := 0, locals := 23 }
set_option maxHeartbeats 4000000 in
set_option maxRecDepth 100000 in
theorem m_X7_commonOne (l : Launch) (D : va_G) (cy : Nat → ClassId) (S : St) (a0 : Nat) (r : Int32) (h : f_X7_commonOne S a0 = some r) : Met l yX7_commonOne (wsA yX7_commonOne cX7_commonOne 4 (some .int)) rm_X7_commonOne (va_Pc [.ref a0] (PS D cy S)) (va_Qi (fun r' (_ : Unit) => r' = r) (fun _ _ => True) noA) 0 0 noA := by
  refine Met.ofW (cc := cX7_commonOne) (maxL := 4) (ret := (some .int)) (by decide) rfl ?_
  intro p e s m args below meth c s₁ B hml hv
  obtain ⟨rfl, hP, hK⟩ := hv
  have hx := B.exec
  have hb := B.bytes
  have hr := B.returns
  have hts9 := atoms_spec (ws := wsA yX7_commonOne cX7_commonOne 4 (some .int)) B.pre
  have hts : ∀ w ∈ ALLW, w.before _ s = true := fun w h => hts9 w (List.mem_cons_of_mem _ h)
  have hown : s.vm.findClass RX7 = some m.cls := findClass_of_methodNamed B.named
  have hlocks := B.notSynchronized
  have hS : va_S noA s.heap s.heap [] := va_S.rf
  have hl := lv_entry [.ref a0] (n := 4) (Nat.le_of_ble_eq_true rfl)
  rw [lg_entry_eq]
  generalize (lg_sl [.ref a0] ++ List.replicate (4 - (lg_sl [.ref a0]).length) Slot.unset).toArray = ls at hl ⊢
  have hl : lv_has ls 4 [(0, .ref a0)] := hl
  rw [f_X7_commonOne] at h
  refine lv_aload_n hx hb dX7_commonOne_0 rfl (lv_at hl 0 rfl) ?_
  replace h := bd h
  obtain ⟨x1, q2, h⟩ := h
  refine fg_6_6 hx hb hts hown hK hP wd_893 q2 dX7_commonOne_1 ?_
  refine lv_iconst (v := 0) hx hb dX7_commonOne_4 (by decide) ?_
  replace h := bd h
  obtain ⟨x3, q4, h⟩ := h
  refine r_aI hx hb hK hP q4 dX7_commonOne_5 ?_
  refine lv_istore_n (lv' := [(1, .int x3), (0, .ref a0)]) hx hb dX7_commonOne_6 rfl hl (by decide) rfl (fun ls hl => ?_)
  refine lv_iconst (v := 1) hx hb dX7_commonOne_7 (by decide) ?_
  refine lv_istore_n (lv' := [(2, .int 1), (1, .int x3), (0, .ref a0)]) hx hb dX7_commonOne_8 rfl hl (by decide) rfl (fun ls hl => ?_)
  have L9 : ∀ (S9_ : St) (y9_0 : Nat) (fu : Nat) (y9_1 : Int32) (y9_2 : Int32) (res : Int32), f_X7_commonOne_L9 S9_ y9_0 fu y9_1 y9_2 = some res → ∀ (H : Heap) (locs : List Loc) (ls : Array Slot), SP D cy S9_ H → va_S noA s.heap H locs → lv_has ls 4 [(0, .ref y9_0), (1, .int y9_1), (2, .int y9_2)] → (∀ (H : Heap) (locs : List Loc) (ls : Array Slot), SP D cy S9_ H → va_S noA s.heap H locs → lv_has ls 4 [(1, .int res)] → W p l e rm_X7_commonOne s m ([.ref a0] : List Value).toArray below meth c H locs 0 0 (MQ below (va_Qi (fun r' (_ : Unit) => r' = r) (fun _ _ => True) noA) ([.ref a0] : List Value).toArray s 0 0 noA) (F0 m 69 ls [])) → W p l e rm_X7_commonOne s m ([.ref a0] : List Value).toArray below meth c H locs 0 0 (MQ below (va_Qi (fun r' (_ : Unit) => r' = r) (fun _ _ => True) noA) ([.ref a0] : List Value).toArray s 0 0 noA) (F0 m 9 ls []) := by
    intro S9_ y9_0 fu
    induction fu with
    | zero =>
      intro y9_1 y9_2 res h
      rw [f_X7_commonOne_L9] at h
      cases h
    | succ fu ih =>
      intro y9_1 y9_2 res h H locs ls hP hS hl hexit
      rw [f_X7_commonOne_L9] at h
      refine lv_iload_n hx hb dX7_commonOne_9 rfl (lv_at hl 2 rfl) ?_
      refine lv_aload_n hx hb dX7_commonOne_10 rfl (lv_at hl 0 rfl) ?_
      replace h := bd h
      obtain ⟨x7, q8, h⟩ := h
      refine fg_6_7 hx hb hts hown hK hP wd_894 q8 dX7_commonOne_11 ?_
      refine lv_icmp_ge (tgt := 69) hx hb dX7_commonOne_14 (by decide) (fun c9 => ?_) (fun c9 => ?_)
      · replace h := ifp c9 h
        cases h
        exact hexit _ _ _ hP hS (lv_sub hl [1] rfl)
      · replace h := ifn c9 h
        refine lv_aload_n hx hb dX7_commonOne_17 rfl (lv_at hl 0 rfl) ?_
        refine lv_aload_n hx hb dX7_commonOne_18 rfl (lv_at hl 0 rfl) ?_
        replace h := bd h
        obtain ⟨x10, q11, h⟩ := h
        refine fg_6_6 hx hb hts hown hK hP wd_893 q11 dX7_commonOne_19 ?_
        refine lv_iload_n hx hb dX7_commonOne_22 rfl (lv_at hl 2 rfl) ?_
        replace h := bd h
        obtain ⟨x12, q13, h⟩ := h
        refine r_aI hx hb hK hP q13 dX7_commonOne_23 ?_
        replace h := bd h
        obtain ⟨_, q14, h⟩ := h
        replace h := bd h
        obtain ⟨x16, q15, h⟩ := h
        refine c_X7_timesOf ⟨hx, hb, hml, hown, hts⟩ hl.1 hK hP hS wd_1000 ⟨(Nat.le_of_ble_eq_true rfl), (Nat.le_of_ble_eq_true rfl)⟩ q15 q14 (Nat.le_of_ble_eq_true rfl) dX7_commonOne_24 ⟨(Nat.le_of_ble_eq_true rfl), (Nat.le_of_ble_eq_true rfl)⟩ (fun H locs hP hS => ?_)
        refine lv_aload_n hx hb dX7_commonOne_27 rfl (lv_at hl 0 rfl) ?_
        refine lv_iload_n hx hb dX7_commonOne_28 rfl (lv_at hl 1 rfl) ?_
        replace h := bd h
        obtain ⟨_, q17, h⟩ := h
        replace h := bd h
        obtain ⟨x19, q18, h⟩ := h
        refine c_X7_timesOf ⟨hx, hb, hml, hown, hts⟩ hl.1 hK hP hS wd_1000 ⟨(Nat.le_of_ble_eq_true rfl), (Nat.le_of_ble_eq_true rfl)⟩ q18 q17 (Nat.le_of_ble_eq_true rfl) dX7_commonOne_29 ⟨(Nat.le_of_ble_eq_true rfl), (Nat.le_of_ble_eq_true rfl)⟩ (fun H locs hP hS => ?_)
        refine lv_isub hx hb dX7_commonOne_32 ?_
        refine lv_istore_n (lv' := [(3, .int (x16 - x19)), (0, .ref y9_0), (1, .int y9_1), (2, .int y9_2)]) hx hb dX7_commonOne_33 rfl hl (by decide) rfl (fun ls hl => ?_)
        refine lv_iload_n hx hb dX7_commonOne_34 rfl (lv_at hl 0 rfl) ?_
        replace h := bd h
        obtain ⟨t20, ht, h⟩ := h
        have K20 : ∀ (H : Heap) (locs : List Loc) (ls : Array Slot), SP D cy S9_ H → va_S noA s.heap H locs → lv_has ls 4 [(0, .ref y9_0), (2, .int y9_2)] → W p l e rm_X7_commonOne s m ([.ref a0] : List Value).toArray below meth c H locs 0 0 (MQ below (va_Qi (fun r' (_ : Unit) => r' = r) (fun _ _ => True) noA) ([.ref a0] : List Value).toArray s 0 0 noA) (F0 m 62 ls [.int t20]) := by
          intro H locs ls hP hS hl
          refine lv_istore_n (lv' := [(1, .int t20), (0, .ref y9_0), (2, .int y9_2)]) hx hb dX7_commonOne_62 rfl hl (by decide) rfl (fun ls hl => ?_)
          refine lv_iinc (v := (y9_2 + 1)) (lv' := [(2, .int (y9_2 + 1)), (1, .int t20), (0, .ref y9_0)]) hx hb dX7_commonOne_63 hl (k := 2) rfl rfl (by decide) rfl (fun ls hl => ?_)
          refine lv_goto (tgt := 9) hx hb dX7_commonOne_66 (by decide) ?_
          exact ih t20 (y9_2 + 1) _ h _ _ _ hP hS (lv_sub hl [2, 1, 0] rfl) hexit
        replace h := ht
        refine lv_if_gt (tgt := 52) hx hb dX7_commonOne_35 (by decide) (fun c21 => ?_) (fun c21 => ?_)
        · replace h := ifp c21 h
          refine lv_aload_n hx hb dX7_commonOne_52 rfl (lv_at hl 1 rfl) ?_
          replace h := bd h
          obtain ⟨x22, q23, h⟩ := h
          refine fg_6_6 hx hb hts hown hK hP wd_893 q23 dX7_commonOne_53 ?_
          refine lv_iload_n hx hb dX7_commonOne_56 rfl (lv_at hl 3 rfl) ?_
          replace h := bd h
          obtain ⟨x24, q25, h⟩ := h
          refine r_aI hx hb hK hP q25 dX7_commonOne_57 ?_
          refine lv_goto (tgt := 62) hx hb dX7_commonOne_58 (by decide) ?_
          cases h
          exact K20 _ _ _ hP hS (lv_sub hl [1, 3] rfl)
        · replace h := ifn c21 h
          refine lv_iload_n hx hb dX7_commonOne_38 rfl (lv_at hl 0 rfl) ?_
          refine lv_if_ne (tgt := 61) hx hb dX7_commonOne_39 (by decide) (fun c26 => ?_) (fun c26 => ?_)
          · replace h := ifn c26 h
            refine lv_iload_n hx hb dX7_commonOne_61 rfl (lv_at hl 2 rfl) ?_
            cases h
            exact K20 _ _ _ hP hS (lv_sub hl [1, 3] rfl)
          · replace h := ifp c26 h
            refine lv_aload_n hx hb dX7_commonOne_42 rfl (lv_at hl 1 rfl) ?_
            replace h := bd h
            obtain ⟨x27, q28, h⟩ := h
            refine fg_6_6 hx hb hts hown hK hP wd_893 q28 dX7_commonOne_43 ?_
            refine lv_iload_n hx hb dX7_commonOne_46 rfl (lv_at hl 3 rfl) ?_
            replace h := bd h
            obtain ⟨x29, q30, h⟩ := h
            refine r_aI hx hb hK hP q30 dX7_commonOne_47 ?_
            refine lv_iload_n hx hb dX7_commonOne_48 rfl (lv_at hl 2 rfl) ?_
            refine lv_icmp_ge (tgt := 61) hx hb dX7_commonOne_49 (by decide) (fun c31 => ?_) (fun c31 => ?_)
            · replace h := ifp c31 h
              refine lv_iload_n hx hb dX7_commonOne_61 rfl (lv_at hl 2 rfl) ?_
              cases h
              exact K20 _ _ _ hP hS (lv_sub hl [1, 3] rfl)
            · replace h := ifn c31 h
              refine lv_aload_n hx hb dX7_commonOne_52 rfl (lv_at hl 1 rfl) ?_
              replace h := bd h
              obtain ⟨x32, q33, h⟩ := h
              refine fg_6_6 hx hb hts hown hK hP wd_893 q33 dX7_commonOne_53 ?_
              refine lv_iload_n hx hb dX7_commonOne_56 rfl (lv_at hl 3 rfl) ?_
              replace h := bd h
              obtain ⟨x34, q35, h⟩ := h
              refine r_aI hx hb hK hP q35 dX7_commonOne_57 ?_
              refine lv_goto (tgt := 62) hx hb dX7_commonOne_58 (by decide) ?_
              cases h
              exact K20 _ _ _ hP hS (lv_sub hl [1, 3] rfl)
  replace h := bd h
  obtain ⟨z5, q36, h⟩ := h
  refine L9 S a0 FU x3 1 z5 q36 _ _ _ hP hS (lv_sub hl [2, 1, 0] rfl) (fun H locs ls hP hS hl => ?_)
  refine lv_iload_n hx hb dX7_commonOne_69 rfl (lv_at hl 0 rfl) ?_
  cases h
  exact e_ip hx hb hlocks hr hS (Nat.le_of_ble_eq_true rfl) (Nat.le_of_ble_eq_true rfl) dX7_commonOne_70
set_option maxRecDepth 100000 in
theorem c_X7_commonOne {p : Program} {l : Launch} {e : Env} {R : Room} {s : State} {m : MethodId} {args : Array Value} {below : List Frame} {meth : Method} {c : Code} {H : Heap} {locs : List Loc} {cells slots : Nat} {Q : State → Prop} {cc : ByteArray} {pc index nL : Nat} {ls : Array Slot} {rest : List Value} {D : va_G} {cy : Nat → ClassId} {A0 : Nat → Prop} {S : St} {H0 : Heap} {own : String} {u : Unit} {a0 : Nat} {r : Int32}  (hF : CallFix p m c cc nL s args ALLW own) (hsz : ls.size = nL) (hK : va_K D vwCl (tyL cy) s) (hP : SP D cy S H) (hS : va_S A0 H0 H locs) (hk : Cond.methodLink own index yX7_commonOne ∈ ALLW) (hR : rm_X7_commonOne.frames + 1 ≤ R.frames ∧ 8 + (4 + 11) + rm_X7_commonOne.locals ≤ R.locals) (h : f_X7_commonOne S a0 = some r) (hc : oO S a0 6 = some u) (hW : (rest.map fun v => v.category).sum ≤ 8) (hdg : decode cc pc = .ok (.invokevirtual index, 3)) (hf : cells + 0 ≤ R.cells ∧ slots + 0 ≤ R.slots)
    (kk : ∀ (H1 : Heap) (locs1 : List Loc), SP D cy S H1 → va_S A0 H0 H1 locs1 → W p l e R s m args below meth c H1 locs1 (cells + 0) (slots + 0) Q (F0 m (pc + 3) ls (.int r :: rest))) : W p l e R s m args below meth c H locs cells slots Q (F0 m pc ls (.ref a0 :: rest)) := by
  exact k_iVp (As := []) hF hsz (m_X7_commonOne l D cy S a0 r h) (cwV_of (n := 0) hF.2.2.2.2 hk wd_998 wd_32 wd_75 wd_999 rfl rfl (by decide +kernel) hR) rfl hK hP hS (ci := 6) hc rfl hW rfl hdg hf kk
/-- VowBlocksModel.rare()I -/
def f_X7_rare (S : St) (a0 : Nat) : Option (Int32) :=
  (gI S a0 6 7).bind fun x1 =>
  (oO S a0 6).bind fun _ =>
  (f_X7_commonOne S a0).bind fun x5 =>
  (oO S a0 6).bind fun _ =>
  (f_X7_timesOf S a0 x5).bind fun x8 =>
  some (x1 - x8)
abbrev rm_X7_rare : Room := { frames := 2, cells := 0, slots := 0, locals := 46 }
set_option maxHeartbeats 4000000 in
set_option maxRecDepth 100000 in
theorem m_X7_rare (l : Launch) (D : va_G) (cy : Nat → ClassId) (S : St) (a0 : Nat) (r : Int32) (h : f_X7_rare S a0 = some r) : Met l yX7_rare (wsA yX7_rare cX7_rare 1 (some .int)) rm_X7_rare (va_Pc [.ref a0] (PS D cy S)) (va_Qi (fun r' (_ : Unit) => r' = r) (fun _ _ => True) noA) 0 0 noA := by
  refine Met.ofW (cc := cX7_rare) (maxL := 1) (ret := (some .int)) (by decide) rfl ?_
  intro p e s m args below meth c s₁ B hml hv
  obtain ⟨rfl, hP, hK⟩ := hv
  have hx := B.exec
  have hb := B.bytes
  have hr := B.returns
  have hts9 := atoms_spec (ws := wsA yX7_rare cX7_rare 1 (some .int)) B.pre
  have hts : ∀ w ∈ ALLW, w.before _ s = true := fun w h => hts9 w (List.mem_cons_of_mem _ h)
  have hown : s.vm.findClass RX7 = some m.cls := findClass_of_methodNamed B.named
  have hlocks := B.notSynchronized
  have hS : va_S noA s.heap s.heap [] := va_S.rf
  have hl := lv_entry [.ref a0] (n := 1) (Nat.le_of_ble_eq_true rfl)
  rw [lg_entry_eq]
  generalize (lg_sl [.ref a0] ++ List.replicate (1 - (lg_sl [.ref a0]).length) Slot.unset).toArray = ls at hl ⊢
  have hl : lv_has ls 1 [(0, .ref a0)] := hl
  rw [f_X7_rare] at h
  refine lv_aload_n hx hb dX7_rare_0 rfl (lv_at hl 0 rfl) ?_
  replace h := bd h
  obtain ⟨x1, q2, h⟩ := h
  refine fg_6_7 hx hb hts hown hK hP wd_894 q2 dX7_rare_1 ?_
  refine lv_aload_n hx hb dX7_rare_4 rfl (lv_at hl 0 rfl) ?_
  refine lv_aload_n hx hb dX7_rare_5 rfl (lv_at hl 0 rfl) ?_
  replace h := bd h
  obtain ⟨_, q3, h⟩ := h
  replace h := bd h
  obtain ⟨x5, q4, h⟩ := h
  refine c_X7_commonOne ⟨hx, hb, hml, hown, hts⟩ hl.1 hK hP hS wd_996 ⟨(Nat.le_of_ble_eq_true rfl), (Nat.le_of_ble_eq_true rfl)⟩ q4 q3 (Nat.le_of_ble_eq_true rfl) dX7_rare_6 ⟨(Nat.le_of_ble_eq_true rfl), (Nat.le_of_ble_eq_true rfl)⟩ (fun H locs hP hS => ?_)
  replace h := bd h
  obtain ⟨_, q6, h⟩ := h
  replace h := bd h
  obtain ⟨x8, q7, h⟩ := h
  refine c_X7_timesOf ⟨hx, hb, hml, hown, hts⟩ hl.1 hK hP hS wd_1000 ⟨(Nat.le_of_ble_eq_true rfl), (Nat.le_of_ble_eq_true rfl)⟩ q7 q6 (Nat.le_of_ble_eq_true rfl) dX7_rare_9 ⟨(Nat.le_of_ble_eq_true rfl), (Nat.le_of_ble_eq_true rfl)⟩ (fun H locs hP hS => ?_)
  refine lv_isub hx hb dX7_rare_12 ?_
  cases h
  exact e_ip hx hb hlocks hr hS (Nat.le_of_ble_eq_true rfl) (Nat.le_of_ble_eq_true rfl) dX7_rare_13
set_option maxRecDepth 100000 in
theorem c_X7_rare {p : Program} {l : Launch} {e : Env} {R : Room} {s : State} {m : MethodId} {args : Array Value} {below : List Frame} {meth : Method} {c : Code} {H : Heap} {locs : List Loc} {cells slots : Nat} {Q : State → Prop} {cc : ByteArray} {pc index nL : Nat} {ls : Array Slot} {rest : List Value} {D : va_G} {cy : Nat → ClassId} {A0 : Nat → Prop} {S : St} {H0 : Heap} {own : String} {u : Unit} {a0 : Nat} {r : Int32}  (hF : CallFix p m c cc nL s args ALLW own) (hsz : ls.size = nL) (hK : va_K D vwCl (tyL cy) s) (hP : SP D cy S H) (hS : va_S A0 H0 H locs) (hk : Cond.methodLink own index yX7_rare ∈ ALLW) (hR : rm_X7_rare.frames + 1 ≤ R.frames ∧ 8 + (1 + 11) + rm_X7_rare.locals ≤ R.locals) (h : f_X7_rare S a0 = some r) (hc : oO S a0 6 = some u) (hW : (rest.map fun v => v.category).sum ≤ 8) (hdg : decode cc pc = .ok (.invokevirtual index, 3)) (hf : cells + 0 ≤ R.cells ∧ slots + 0 ≤ R.slots)
    (kk : ∀ (H1 : Heap) (locs1 : List Loc), SP D cy S H1 → va_S A0 H0 H1 locs1 → W p l e R s m args below meth c H1 locs1 (cells + 0) (slots + 0) Q (F0 m (pc + 3) ls (.int r :: rest))) : W p l e R s m args below meth c H locs cells slots Q (F0 m pc ls (.ref a0 :: rest)) := by
  exact k_iVp (As := []) hF hsz (m_X7_rare l D cy S a0 r h) (cwV_of (n := 0) hF.2.2.2.2 hk wd_994 wd_31 wd_75 wd_995 rfl rfl (by decide +kernel) hR) rfl hK hP hS (ci := 6) hc rfl hW rfl hdg hf kk
/-- VowBlocksModel.least()I -/
def f_X7_least_L9 (S9_ : St) (y9_0 : Nat) : Nat → Int32 → Int32 →  Option (Int32)
  | 0, _, _ => none
  | fu + 1, y9_1, y9_2 =>
    (gI S9_ y9_0 6 7).bind fun x7 =>
    if x7 ≤ y9_2 then
      some y9_1
    else
      (gR S9_ y9_0 6 6).bind fun x10 =>
      (aI S9_ x10 y9_2).bind fun x12 =>
      (
        if y9_1 ≤ x12 then
          some y9_1
        else
          (gR S9_ y9_0 6 6).bind fun x16 =>
          (aI S9_ x16 y9_2).bind fun x18 =>
          some x18
      : Option (Int32)).bind fun t14 =>
      f_X7_least_L9 S9_ y9_0 fu t14 (y9_2 + 1)
def f_X7_least (S : St) (a0 : Nat) : Option (Int32) :=
  (gR S a0 6 6).bind fun x1 =>
  (aI S x1 0).bind fun x3 =>
  (f_X7_least_L9 S a0 FU x3 1).bind fun z5 =>
  some z5
abbrev rm_X7_least : Room := { frames := 0, cells := 0, slots := 0, locals := 0 }
set_option maxHeartbeats 4000000 in
set_option maxRecDepth 100000 in
theorem m_X7_least (l : Launch) (D : va_G) (cy : Nat → ClassId) (S : St) (a0 : Nat) (r : Int32) (h : f_X7_least S a0 = some r) : Met l yX7_least (wsA yX7_least cX7_least 3 (some .int)) rm_X7_least (va_Pc [.ref a0] (PS D cy S)) (va_Qi (fun r' (_ : Unit) => r' = r) (fun _ _ => True) noA) 0 0 noA := by
  refine Met.ofW (cc := cX7_least) (maxL := 3) (ret := (some .int)) (by decide) rfl ?_
  intro p e s m args below meth c s₁ B hml hv
  obtain ⟨rfl, hP, hK⟩ := hv
  have hx := B.exec
  have hb := B.bytes
  have hr := B.returns
  have hts9 := atoms_spec (ws := wsA yX7_least cX7_least 3 (some .int)) B.pre
  have hts : ∀ w ∈ ALLW, w.before _ s = true := fun w h => hts9 w (List.mem_cons_of_mem _ h)
  have hown : s.vm.findClass RX7 = some m.cls := findClass_of_methodNamed B.named
  have hlocks := B.notSynchronized
  have hS : va_S noA s.heap s.heap [] := va_S.rf
  have hl := lv_entry [.ref a0] (n := 3) (Nat.le_of_ble_eq_true rfl)
  rw [lg_entry_eq]
  generalize (lg_sl [.ref a0] ++ List.replicate (3 - (lg_sl [.ref a0]).length) Slot.unset).toArray = ls at hl ⊢
  have hl : lv_has ls 3 [(0, .ref a0)] := hl
  rw [f_X7_least] at h
  refine lv_aload_n hx hb dX7_least_0 rfl (lv_at hl 0 rfl) ?_
  replace h := bd h
  obtain ⟨x1, q2, h⟩ := h
  refine fg_6_6 hx hb hts hown hK hP wd_893 q2 dX7_least_1 ?_
  refine lv_iconst (v := 0) hx hb dX7_least_4 (by decide) ?_
  replace h := bd h
  obtain ⟨x3, q4, h⟩ := h
  refine r_aI hx hb hK hP q4 dX7_least_5 ?_
  refine lv_istore_n (lv' := [(1, .int x3), (0, .ref a0)]) hx hb dX7_least_6 rfl hl (by decide) rfl (fun ls hl => ?_)
  refine lv_iconst (v := 1) hx hb dX7_least_7 (by decide) ?_
  refine lv_istore_n (lv' := [(2, .int 1), (1, .int x3), (0, .ref a0)]) hx hb dX7_least_8 rfl hl (by decide) rfl (fun ls hl => ?_)
  have L9 : ∀ (S9_ : St) (y9_0 : Nat) (fu : Nat) (y9_1 : Int32) (y9_2 : Int32) (res : Int32), f_X7_least_L9 S9_ y9_0 fu y9_1 y9_2 = some res → ∀ (H : Heap) (locs : List Loc) (ls : Array Slot), SP D cy S9_ H → va_S noA s.heap H locs → lv_has ls 3 [(0, .ref y9_0), (1, .int y9_1), (2, .int y9_2)] → (∀ (H : Heap) (locs : List Loc) (ls : Array Slot), SP D cy S9_ H → va_S noA s.heap H locs → lv_has ls 3 [(1, .int res)] → W p l e rm_X7_least s m ([.ref a0] : List Value).toArray below meth c H locs 0 0 (MQ below (va_Qi (fun r' (_ : Unit) => r' = r) (fun _ _ => True) noA) ([.ref a0] : List Value).toArray s 0 0 noA) (F0 m 44 ls [])) → W p l e rm_X7_least s m ([.ref a0] : List Value).toArray below meth c H locs 0 0 (MQ below (va_Qi (fun r' (_ : Unit) => r' = r) (fun _ _ => True) noA) ([.ref a0] : List Value).toArray s 0 0 noA) (F0 m 9 ls []) := by
    intro S9_ y9_0 fu
    induction fu with
    | zero =>
      intro y9_1 y9_2 res h
      rw [f_X7_least_L9] at h
      cases h
    | succ fu ih =>
      intro y9_1 y9_2 res h H locs ls hP hS hl hexit
      rw [f_X7_least_L9] at h
      refine lv_iload_n hx hb dX7_least_9 rfl (lv_at hl 2 rfl) ?_
      refine lv_aload_n hx hb dX7_least_10 rfl (lv_at hl 0 rfl) ?_
      replace h := bd h
      obtain ⟨x7, q8, h⟩ := h
      refine fg_6_7 hx hb hts hown hK hP wd_894 q8 dX7_least_11 ?_
      refine lv_icmp_ge (tgt := 44) hx hb dX7_least_14 (by decide) (fun c9 => ?_) (fun c9 => ?_)
      · replace h := ifp c9 h
        cases h
        exact hexit _ _ _ hP hS (lv_sub hl [1] rfl)
      · replace h := ifn c9 h
        refine lv_aload_n hx hb dX7_least_17 rfl (lv_at hl 0 rfl) ?_
        replace h := bd h
        obtain ⟨x10, q11, h⟩ := h
        refine fg_6_6 hx hb hts hown hK hP wd_893 q11 dX7_least_18 ?_
        refine lv_iload_n hx hb dX7_least_21 rfl (lv_at hl 2 rfl) ?_
        replace h := bd h
        obtain ⟨x12, q13, h⟩ := h
        refine r_aI hx hb hK hP q13 dX7_least_22 ?_
        refine lv_iload_n hx hb dX7_least_23 rfl (lv_at hl 1 rfl) ?_
        replace h := bd h
        obtain ⟨t14, ht, h⟩ := h
        have K14 : ∀ (H : Heap) (locs : List Loc) (ls : Array Slot), SP D cy S9_ H → va_S noA s.heap H locs → lv_has ls 3 [(0, .ref y9_0), (2, .int y9_2)] → W p l e rm_X7_least s m ([.ref a0] : List Value).toArray below meth c H locs 0 0 (MQ below (va_Qi (fun r' (_ : Unit) => r' = r) (fun _ _ => True) noA) ([.ref a0] : List Value).toArray s 0 0 noA) (F0 m 37 ls [.int t14]) := by
          intro H locs ls hP hS hl
          refine lv_istore_n (lv' := [(1, .int t14), (0, .ref y9_0), (2, .int y9_2)]) hx hb dX7_least_37 rfl hl (by decide) rfl (fun ls hl => ?_)
          refine lv_iinc (v := (y9_2 + 1)) (lv' := [(2, .int (y9_2 + 1)), (1, .int t14), (0, .ref y9_0)]) hx hb dX7_least_38 hl (k := 2) rfl rfl (by decide) rfl (fun ls hl => ?_)
          refine lv_goto (tgt := 9) hx hb dX7_least_41 (by decide) ?_
          exact ih t14 (y9_2 + 1) _ h _ _ _ hP hS (lv_sub hl [2, 1, 0] rfl) hexit
        replace h := ht
        refine lv_icmp_ge (tgt := 36) hx hb dX7_least_24 (by decide) (fun c15 => ?_) (fun c15 => ?_)
        · replace h := ifp c15 h
          refine lv_iload_n hx hb dX7_least_36 rfl (lv_at hl 1 rfl) ?_
          cases h
          exact K14 _ _ _ hP hS (lv_sub hl [0, 2] rfl)
        · replace h := ifn c15 h
          refine lv_aload_n hx hb dX7_least_27 rfl (lv_at hl 0 rfl) ?_
          replace h := bd h
          obtain ⟨x16, q17, h⟩ := h
          refine fg_6_6 hx hb hts hown hK hP wd_893 q17 dX7_least_28 ?_
          refine lv_iload_n hx hb dX7_least_31 rfl (lv_at hl 2 rfl) ?_
          replace h := bd h
          obtain ⟨x18, q19, h⟩ := h
          refine r_aI hx hb hK hP q19 dX7_least_32 ?_
          refine lv_goto (tgt := 37) hx hb dX7_least_33 (by decide) ?_
          cases h
          exact K14 _ _ _ hP hS (lv_sub hl [0, 2] rfl)
  replace h := bd h
  obtain ⟨z5, q20, h⟩ := h
  refine L9 S a0 FU x3 1 z5 q20 _ _ _ hP hS (lv_sub hl [2, 1, 0] rfl) (fun H locs ls hP hS hl => ?_)
  refine lv_iload_n hx hb dX7_least_44 rfl (lv_at hl 0 rfl) ?_
  cases h
  exact e_ip hx hb hlocks hr hS (Nat.le_of_ble_eq_true rfl) (Nat.le_of_ble_eq_true rfl) dX7_least_45
set_option maxRecDepth 100000 in
theorem c_X7_least {p : Program} {l : Launch} {e : Env} {R : Room} {s : State} {m : MethodId} {args : Array Value} {below : List Frame} {meth : Method} {c : Code} {H : Heap} {locs : List Loc} {cells slots : Nat} {Q : State → Prop} {cc : ByteArray} {pc index nL : Nat} {ls : Array Slot} {rest : List Value} {D : va_G} {cy : Nat → ClassId} {A0 : Nat → Prop} {S : St} {H0 : Heap} {own : String} {u : Unit} {a0 : Nat} {r : Int32}  (hF : CallFix p m c cc nL s args ALLW own) (hsz : ls.size = nL) (hK : va_K D vwCl (tyL cy) s) (hP : SP D cy S H) (hS : va_S A0 H0 H locs) (hk : Cond.methodLink own index yX7_least ∈ ALLW) (hR : rm_X7_least.frames + 1 ≤ R.frames ∧ 8 + (3 + 11) + rm_X7_least.locals ≤ R.locals) (h : f_X7_least S a0 = some r) (hc : oO S a0 6 = some u) (hW : (rest.map fun v => v.category).sum ≤ 8) (hdg : decode cc pc = .ok (.invokevirtual index, 3)) (hf : cells + 0 ≤ R.cells ∧ slots + 0 ≤ R.slots)
    (kk : ∀ (H1 : Heap) (locs1 : List Loc), SP D cy S H1 → va_S A0 H0 H1 locs1 → W p l e R s m args below meth c H1 locs1 (cells + 0) (slots + 0) Q (F0 m (pc + 3) ls (.int r :: rest))) : W p l e R s m args below meth c H locs cells slots Q (F0 m pc ls (.ref a0 :: rest)) := by
  exact k_iVp (As := []) hF hsz (m_X7_least l D cy S a0 r h) (cwV_of (n := 0) hF.2.2.2.2 hk wd_1010 wd_35 wd_75 wd_1011 rfl rfl (by decide +kernel) hR) rfl hK hP hS (ci := 6) hc rfl hW rfl hdg hf kk
/-- VowBlocksModel.frameBits()I -/
def f_X7_frameBits_L9 (S9_ : St) (y9_0 : Nat) : Nat → Int32 → Int32 →  Option (Int32)
  | 0, _, _ => none
  | fu + 1, y9_1, y9_2 =>
    (gI S9_ y9_0 6 7).bind fun x7 =>
    if x7 ≤ y9_2 then
      some y9_1
    else
      (gR S9_ y9_0 6 6).bind fun x10 =>
      (aI S9_ x10 y9_2).bind fun x12 =>
      (
        if x12 ≤ y9_1 then
          some y9_1
        else
          (gR S9_ y9_0 6 6).bind fun x16 =>
          (aI S9_ x16 y9_2).bind fun x18 =>
          some x18
      : Option (Int32)).bind fun t14 =>
      f_X7_frameBits_L9 S9_ y9_0 fu t14 (y9_2 + 1)
def f_X7_frameBits (S : St) (a0 : Nat) : Option (Int32) :=
  (gR S a0 6 6).bind fun x1 =>
  (aI S x1 0).bind fun x3 =>
  (f_X7_frameBits_L9 S a0 FU x3 1).bind fun z5 =>
  (oO S a0 6).bind fun _ =>
  (f_X7_least S a0).bind fun x23 =>
  (f_X7_bitsFor ((z5 - x23) + 1)).bind fun x25 =>
  some x25
abbrev rm_X7_frameBits : Room := { frames := 1, cells := 0, slots := 0, locals := 22 }
set_option maxHeartbeats 4000000 in
set_option maxRecDepth 100000 in
theorem m_X7_frameBits (l : Launch) (D : va_G) (cy : Nat → ClassId) (S : St) (a0 : Nat) (r : Int32) (h : f_X7_frameBits S a0 = some r) : Met l yX7_frameBits (wsA yX7_frameBits cX7_frameBits 3 (some .int)) rm_X7_frameBits (va_Pc [.ref a0] (PS D cy S)) (va_Qi (fun r' (_ : Unit) => r' = r) (fun _ _ => True) noA) 0 0 noA := by
  refine Met.ofW (cc := cX7_frameBits) (maxL := 3) (ret := (some .int)) (by decide) rfl ?_
  intro p e s m args below meth c s₁ B hml hv
  obtain ⟨rfl, hP, hK⟩ := hv
  have hx := B.exec
  have hb := B.bytes
  have hr := B.returns
  have hts9 := atoms_spec (ws := wsA yX7_frameBits cX7_frameBits 3 (some .int)) B.pre
  have hts : ∀ w ∈ ALLW, w.before _ s = true := fun w h => hts9 w (List.mem_cons_of_mem _ h)
  have hown : s.vm.findClass RX7 = some m.cls := findClass_of_methodNamed B.named
  have hlocks := B.notSynchronized
  have hS : va_S noA s.heap s.heap [] := va_S.rf
  have hl := lv_entry [.ref a0] (n := 3) (Nat.le_of_ble_eq_true rfl)
  rw [lg_entry_eq]
  generalize (lg_sl [.ref a0] ++ List.replicate (3 - (lg_sl [.ref a0]).length) Slot.unset).toArray = ls at hl ⊢
  have hl : lv_has ls 3 [(0, .ref a0)] := hl
  rw [f_X7_frameBits] at h
  refine lv_aload_n hx hb dX7_frameBits_0 rfl (lv_at hl 0 rfl) ?_
  replace h := bd h
  obtain ⟨x1, q2, h⟩ := h
  refine fg_6_6 hx hb hts hown hK hP wd_893 q2 dX7_frameBits_1 ?_
  refine lv_iconst (v := 0) hx hb dX7_frameBits_4 (by decide) ?_
  replace h := bd h
  obtain ⟨x3, q4, h⟩ := h
  refine r_aI hx hb hK hP q4 dX7_frameBits_5 ?_
  refine lv_istore_n (lv' := [(1, .int x3), (0, .ref a0)]) hx hb dX7_frameBits_6 rfl hl (by decide) rfl (fun ls hl => ?_)
  refine lv_iconst (v := 1) hx hb dX7_frameBits_7 (by decide) ?_
  refine lv_istore_n (lv' := [(2, .int 1), (1, .int x3), (0, .ref a0)]) hx hb dX7_frameBits_8 rfl hl (by decide) rfl (fun ls hl => ?_)
  have L9 : ∀ (S9_ : St) (y9_0 : Nat) (fu : Nat) (y9_1 : Int32) (y9_2 : Int32) (res : Int32), f_X7_frameBits_L9 S9_ y9_0 fu y9_1 y9_2 = some res → ∀ (H : Heap) (locs : List Loc) (ls : Array Slot), SP D cy S9_ H → va_S noA s.heap H locs → lv_has ls 3 [(0, .ref y9_0), (1, .int y9_1), (2, .int y9_2)] → (∀ (H : Heap) (locs : List Loc) (ls : Array Slot), SP D cy S9_ H → va_S noA s.heap H locs → lv_has ls 3 [(0, .ref y9_0), (1, .int res)] → W p l e rm_X7_frameBits s m ([.ref a0] : List Value).toArray below meth c H locs 0 0 (MQ below (va_Qi (fun r' (_ : Unit) => r' = r) (fun _ _ => True) noA) ([.ref a0] : List Value).toArray s 0 0 noA) (F0 m 44 ls [])) → W p l e rm_X7_frameBits s m ([.ref a0] : List Value).toArray below meth c H locs 0 0 (MQ below (va_Qi (fun r' (_ : Unit) => r' = r) (fun _ _ => True) noA) ([.ref a0] : List Value).toArray s 0 0 noA) (F0 m 9 ls []) := by
    intro S9_ y9_0 fu
    induction fu with
    | zero =>
      intro y9_1 y9_2 res h
      rw [f_X7_frameBits_L9] at h
      cases h
    | succ fu ih =>
      intro y9_1 y9_2 res h H locs ls hP hS hl hexit
      rw [f_X7_frameBits_L9] at h
      refine lv_iload_n hx hb dX7_frameBits_9 rfl (lv_at hl 2 rfl) ?_
      refine lv_aload_n hx hb dX7_frameBits_10 rfl (lv_at hl 0 rfl) ?_
      replace h := bd h
      obtain ⟨x7, q8, h⟩ := h
      refine fg_6_7 hx hb hts hown hK hP wd_894 q8 dX7_frameBits_11 ?_
      refine lv_icmp_ge (tgt := 44) hx hb dX7_frameBits_14 (by decide) (fun c9 => ?_) (fun c9 => ?_)
      · replace h := ifp c9 h
        cases h
        exact hexit _ _ _ hP hS (lv_sub hl [0, 1] rfl)
      · replace h := ifn c9 h
        refine lv_aload_n hx hb dX7_frameBits_17 rfl (lv_at hl 0 rfl) ?_
        replace h := bd h
        obtain ⟨x10, q11, h⟩ := h
        refine fg_6_6 hx hb hts hown hK hP wd_893 q11 dX7_frameBits_18 ?_
        refine lv_iload_n hx hb dX7_frameBits_21 rfl (lv_at hl 2 rfl) ?_
        replace h := bd h
        obtain ⟨x12, q13, h⟩ := h
        refine r_aI hx hb hK hP q13 dX7_frameBits_22 ?_
        refine lv_iload_n hx hb dX7_frameBits_23 rfl (lv_at hl 1 rfl) ?_
        replace h := bd h
        obtain ⟨t14, ht, h⟩ := h
        have K14 : ∀ (H : Heap) (locs : List Loc) (ls : Array Slot), SP D cy S9_ H → va_S noA s.heap H locs → lv_has ls 3 [(0, .ref y9_0), (2, .int y9_2)] → W p l e rm_X7_frameBits s m ([.ref a0] : List Value).toArray below meth c H locs 0 0 (MQ below (va_Qi (fun r' (_ : Unit) => r' = r) (fun _ _ => True) noA) ([.ref a0] : List Value).toArray s 0 0 noA) (F0 m 37 ls [.int t14]) := by
          intro H locs ls hP hS hl
          refine lv_istore_n (lv' := [(1, .int t14), (0, .ref y9_0), (2, .int y9_2)]) hx hb dX7_frameBits_37 rfl hl (by decide) rfl (fun ls hl => ?_)
          refine lv_iinc (v := (y9_2 + 1)) (lv' := [(2, .int (y9_2 + 1)), (1, .int t14), (0, .ref y9_0)]) hx hb dX7_frameBits_38 hl (k := 2) rfl rfl (by decide) rfl (fun ls hl => ?_)
          refine lv_goto (tgt := 9) hx hb dX7_frameBits_41 (by decide) ?_
          exact ih t14 (y9_2 + 1) _ h _ _ _ hP hS (lv_sub hl [2, 1, 0] rfl) hexit
        replace h := ht
        refine lv_icmp_le (tgt := 36) hx hb dX7_frameBits_24 (by decide) (fun c15 => ?_) (fun c15 => ?_)
        · replace h := ifp c15 h
          refine lv_iload_n hx hb dX7_frameBits_36 rfl (lv_at hl 1 rfl) ?_
          cases h
          exact K14 _ _ _ hP hS (lv_sub hl [0, 2] rfl)
        · replace h := ifn c15 h
          refine lv_aload_n hx hb dX7_frameBits_27 rfl (lv_at hl 0 rfl) ?_
          replace h := bd h
          obtain ⟨x16, q17, h⟩ := h
          refine fg_6_6 hx hb hts hown hK hP wd_893 q17 dX7_frameBits_28 ?_
          refine lv_iload_n hx hb dX7_frameBits_31 rfl (lv_at hl 2 rfl) ?_
          replace h := bd h
          obtain ⟨x18, q19, h⟩ := h
          refine r_aI hx hb hK hP q19 dX7_frameBits_32 ?_
          refine lv_goto (tgt := 37) hx hb dX7_frameBits_33 (by decide) ?_
          cases h
          exact K14 _ _ _ hP hS (lv_sub hl [0, 2] rfl)
  replace h := bd h
  obtain ⟨z5, q20, h⟩ := h
  refine L9 S a0 FU x3 1 z5 q20 _ _ _ hP hS (lv_sub hl [2, 1, 0] rfl) (fun H locs ls hP hS hl => ?_)
  refine lv_iload_n hx hb dX7_frameBits_44 rfl (lv_at hl 1 rfl) ?_
  refine lv_aload_n hx hb dX7_frameBits_45 rfl (lv_at hl 0 rfl) ?_
  replace h := bd h
  obtain ⟨_, q21, h⟩ := h
  replace h := bd h
  obtain ⟨x23, q22, h⟩ := h
  refine c_X7_least ⟨hx, hb, hml, hown, hts⟩ hl.1 hK hP hS wd_1008 ⟨(Nat.le_of_ble_eq_true rfl), (Nat.le_of_ble_eq_true rfl)⟩ q22 q21 (Nat.le_of_ble_eq_true rfl) dX7_frameBits_46 ⟨(Nat.le_of_ble_eq_true rfl), (Nat.le_of_ble_eq_true rfl)⟩ (fun H locs hP hS => ?_)
  refine lv_isub hx hb dX7_frameBits_49 ?_
  refine lv_iconst (v := 1) hx hb dX7_frameBits_50 (by decide) ?_
  refine lv_iadd hx hb dX7_frameBits_51 ?_
  replace h := bd h
  obtain ⟨x25, q24, h⟩ := h
  refine c_X7_bitsFor ⟨hx, hb, hml, hown, hts⟩ hl.1 hK hP hS wd_985 ⟨(Nat.le_of_ble_eq_true rfl), (Nat.le_of_ble_eq_true rfl)⟩ q24 (Nat.le_of_ble_eq_true rfl) dX7_frameBits_52 ⟨(Nat.le_of_ble_eq_true rfl), (Nat.le_of_ble_eq_true rfl)⟩ (fun H locs hP hS => ?_)
  cases h
  exact e_ip hx hb hlocks hr hS (Nat.le_of_ble_eq_true rfl) (Nat.le_of_ble_eq_true rfl) dX7_frameBits_55
set_option maxRecDepth 100000 in
theorem c_X7_frameBits {p : Program} {l : Launch} {e : Env} {R : Room} {s : State} {m : MethodId} {args : Array Value} {below : List Frame} {meth : Method} {c : Code} {H : Heap} {locs : List Loc} {cells slots : Nat} {Q : State → Prop} {cc : ByteArray} {pc index nL : Nat} {ls : Array Slot} {rest : List Value} {D : va_G} {cy : Nat → ClassId} {A0 : Nat → Prop} {S : St} {H0 : Heap} {own : String} {u : Unit} {a0 : Nat} {r : Int32}  (hF : CallFix p m c cc nL s args ALLW own) (hsz : ls.size = nL) (hK : va_K D vwCl (tyL cy) s) (hP : SP D cy S H) (hS : va_S A0 H0 H locs) (hk : Cond.methodLink own index yX7_frameBits ∈ ALLW) (hR : rm_X7_frameBits.frames + 1 ≤ R.frames ∧ 8 + (3 + 11) + rm_X7_frameBits.locals ≤ R.locals) (h : f_X7_frameBits S a0 = some r) (hc : oO S a0 6 = some u) (hW : (rest.map fun v => v.category).sum ≤ 8) (hdg : decode cc pc = .ok (.invokevirtual index, 3)) (hf : cells + 0 ≤ R.cells ∧ slots + 0 ≤ R.slots)
    (kk : ∀ (H1 : Heap) (locs1 : List Loc), SP D cy S H1 → va_S A0 H0 H1 locs1 → W p l e R s m args below meth c H1 locs1 (cells + 0) (slots + 0) Q (F0 m (pc + 3) ls (.int r :: rest))) : W p l e R s m args below meth c H locs cells slots Q (F0 m pc ls (.ref a0 :: rest)) := by
  exact k_iVp (As := []) hF hsz (m_X7_frameBits l D cy S a0 r h) (cwV_of (n := 0) hF.2.2.2.2 hk wd_1006 wd_34 wd_75 wd_1007 rfl rfl (by decide +kernel) hR) rfl hK hP hS (ci := 6) hc rfl hW rfl hdg hf kk
/-- VowBlocksModel.costBy(I)I -/
def f_X7_costBy (S : St) (a0 : Nat) (a1 : Int32) : Option (Int32) :=
  if a1 = 0 then
    (gI S a0 6 7).bind fun x12 =>
    some (8 * x12)
  else
    if a1 = 1 then
      (gI S a0 6 7).bind fun x14 =>
      (oO S a0 6).bind fun _ =>
      (f_X7_runsOf S a0 x14).bind fun x18 =>
      some (13 * x18)
    else
      if a1 = 2 then
        (oO S a0 6).bind fun _ =>
        (f_X7_different S a0).bind fun x21 =>
        (gI S a0 6 7).bind fun x22 =>
        (oO S a0 6).bind fun _ =>
        (f_X7_different S a0).bind fun x26 =>
        (f_X7_bitsFor x26).bind fun x28 =>
        some ((5 + (8 * x21)) + (x22 * x28))
      else
        if a1 = 3 then
          (gI S a0 6 7).bind fun x29 =>
          (oO S a0 6).bind fun _ =>
          (f_X7_stepBits S a0).bind fun x33 =>
          some (12 + ((x29 - 1) * x33))
        else
          if a1 = 4 then
            (gI S a0 6 7).bind fun x34 =>
            (oO S a0 6).bind fun _ =>
            (f_X7_rare S a0).bind fun x38 =>
            some ((8 + x34) + (8 * x38))
          else
            (gI S a0 6 7).bind fun x6 =>
            (oO S a0 6).bind fun _ =>
            (f_X7_frameBits S a0).bind fun x10 =>
            some (12 + (x6 * x10))
abbrev rm_X7_costBy : Room := { frames := 3, cells := 0, slots := 0, locals := 66 }
set_option maxHeartbeats 4000000 in
set_option maxRecDepth 100000 in
theorem m_X7_costBy (l : Launch) (D : va_G) (cy : Nat → ClassId) (S : St) (a0 : Nat) (a1 : Int32) (r : Int32) (h : f_X7_costBy S a0 a1 = some r) : Met l yX7_costBy (wsA yX7_costBy cX7_costBy 2 (some .int)) rm_X7_costBy (va_Pc [.ref a0, .int a1] (PS D cy S)) (va_Qi (fun r' (_ : Unit) => r' = r) (fun _ _ => True) noA) 0 0 noA := by
  refine Met.ofW (cc := cX7_costBy) (maxL := 2) (ret := (some .int)) (by decide) rfl ?_
  intro p e s m args below meth c s₁ B hml hv
  obtain ⟨rfl, hP, hK⟩ := hv
  have hx := B.exec
  have hb := B.bytes
  have hr := B.returns
  have hts9 := atoms_spec (ws := wsA yX7_costBy cX7_costBy 2 (some .int)) B.pre
  have hts : ∀ w ∈ ALLW, w.before _ s = true := fun w h => hts9 w (List.mem_cons_of_mem _ h)
  have hown : s.vm.findClass RX7 = some m.cls := findClass_of_methodNamed B.named
  have hlocks := B.notSynchronized
  have hS : va_S noA s.heap s.heap [] := va_S.rf
  have hl := lv_entry [.ref a0, .int a1] (n := 2) (Nat.le_of_ble_eq_true rfl)
  rw [lg_entry_eq]
  generalize (lg_sl [.ref a0, .int a1] ++ List.replicate (2 - (lg_sl [.ref a0, .int a1]).length) Slot.unset).toArray = ls at hl ⊢
  have hl : lv_has ls 2 [(0, .ref a0), (1, .int a1)] := hl
  rw [f_X7_costBy] at h
  refine lv_iload_n hx hb dX7_costBy_0 rfl (lv_at hl 1 rfl) ?_
  by_cases c1 : a1 = 0
  · replace h := ifp c1 h
    refine lv_tableIn (off := 35) (tgt := 36) hx hb dX7_costBy_1 (by rw [c1]; decide) (by rw [c1]; decide) (by rw [c1]; rfl) (by decide) ?_
    refine lv_bipush (v := 8) hx hb dX7_costBy_36 (by decide) ?_
    refine lv_aload_n hx hb dX7_costBy_38 rfl (lv_at hl 0 rfl) ?_
    replace h := bd h
    obtain ⟨x12, q13, h⟩ := h
    refine fg_6_7 hx hb hts hown hK hP wd_894 q13 dX7_costBy_39 ?_
    refine lv_imul hx hb dX7_costBy_42 ?_
    cases h
    exact e_ip hx hb hlocks hr hS (Nat.le_of_ble_eq_true rfl) (Nat.le_of_ble_eq_true rfl) dX7_costBy_43
  · replace h := ifn c1 h
    by_cases c2 : a1 = 1
    · replace h := ifp c2 h
      refine lv_tableIn (off := 43) (tgt := 44) hx hb dX7_costBy_1 (by rw [c2]; decide) (by rw [c2]; decide) (by rw [c2]; rfl) (by decide) ?_
      refine lv_bipush (v := 13) hx hb dX7_costBy_44 (by decide) ?_
      refine lv_aload_n hx hb dX7_costBy_46 rfl (lv_at hl 0 rfl) ?_
      refine lv_aload_n hx hb dX7_costBy_47 rfl (lv_at hl 0 rfl) ?_
      replace h := bd h
      obtain ⟨x14, q15, h⟩ := h
      refine fg_6_7 hx hb hts hown hK hP wd_894 q15 dX7_costBy_48 ?_
      replace h := bd h
      obtain ⟨_, q16, h⟩ := h
      replace h := bd h
      obtain ⟨x18, q17, h⟩ := h
      refine c_X7_runsOf ⟨hx, hb, hml, hown, hts⟩ hl.1 hK hP hS wd_973 ⟨(Nat.le_of_ble_eq_true rfl), (Nat.le_of_ble_eq_true rfl)⟩ q17 q16 (Nat.le_of_ble_eq_true rfl) dX7_costBy_51 ⟨(Nat.le_of_ble_eq_true rfl), (Nat.le_of_ble_eq_true rfl)⟩ (fun H locs hP hS => ?_)
      refine lv_imul hx hb dX7_costBy_54 ?_
      cases h
      exact e_ip hx hb hlocks hr hS (Nat.le_of_ble_eq_true rfl) (Nat.le_of_ble_eq_true rfl) dX7_costBy_55
    · replace h := ifn c2 h
      by_cases c3 : a1 = 2
      · replace h := ifp c3 h
        refine lv_tableIn (off := 55) (tgt := 56) hx hb dX7_costBy_1 (by rw [c3]; decide) (by rw [c3]; decide) (by rw [c3]; rfl) (by decide) ?_
        refine lv_iconst (v := 5) hx hb dX7_costBy_56 (by decide) ?_
        refine lv_bipush (v := 8) hx hb dX7_costBy_57 (by decide) ?_
        refine lv_aload_n hx hb dX7_costBy_59 rfl (lv_at hl 0 rfl) ?_
        replace h := bd h
        obtain ⟨_, q19, h⟩ := h
        replace h := bd h
        obtain ⟨x21, q20, h⟩ := h
        refine c_X7_different ⟨hx, hb, hml, hown, hts⟩ hl.1 hK hP hS wd_977 ⟨(Nat.le_of_ble_eq_true rfl), (Nat.le_of_ble_eq_true rfl)⟩ q20 q19 (Nat.le_of_ble_eq_true rfl) dX7_costBy_60 ⟨(Nat.le_of_ble_eq_true rfl), (Nat.le_of_ble_eq_true rfl)⟩ (fun H locs hP hS => ?_)
        refine lv_imul hx hb dX7_costBy_63 ?_
        refine lv_iadd hx hb dX7_costBy_64 ?_
        refine lv_aload_n hx hb dX7_costBy_65 rfl (lv_at hl 0 rfl) ?_
        replace h := bd h
        obtain ⟨x22, q23, h⟩ := h
        refine fg_6_7 hx hb hts hown hK hP wd_894 q23 dX7_costBy_66 ?_
        refine lv_aload_n hx hb dX7_costBy_69 rfl (lv_at hl 0 rfl) ?_
        replace h := bd h
        obtain ⟨_, q24, h⟩ := h
        replace h := bd h
        obtain ⟨x26, q25, h⟩ := h
        refine c_X7_different ⟨hx, hb, hml, hown, hts⟩ hl.1 hK hP hS wd_977 ⟨(Nat.le_of_ble_eq_true rfl), (Nat.le_of_ble_eq_true rfl)⟩ q25 q24 (Nat.le_of_ble_eq_true rfl) dX7_costBy_70 ⟨(Nat.le_of_ble_eq_true rfl), (Nat.le_of_ble_eq_true rfl)⟩ (fun H locs hP hS => ?_)
        replace h := bd h
        obtain ⟨x28, q27, h⟩ := h
        refine c_X7_bitsFor ⟨hx, hb, hml, hown, hts⟩ hl.1 hK hP hS wd_985 ⟨(Nat.le_of_ble_eq_true rfl), (Nat.le_of_ble_eq_true rfl)⟩ q27 (Nat.le_of_ble_eq_true rfl) dX7_costBy_73 ⟨(Nat.le_of_ble_eq_true rfl), (Nat.le_of_ble_eq_true rfl)⟩ (fun H locs hP hS => ?_)
        refine lv_imul hx hb dX7_costBy_76 ?_
        refine lv_iadd hx hb dX7_costBy_77 ?_
        cases h
        exact e_ip hx hb hlocks hr hS (Nat.le_of_ble_eq_true rfl) (Nat.le_of_ble_eq_true rfl) dX7_costBy_78
      · replace h := ifn c3 h
        by_cases c4 : a1 = 3
        · replace h := ifp c4 h
          refine lv_tableIn (off := 78) (tgt := 79) hx hb dX7_costBy_1 (by rw [c4]; decide) (by rw [c4]; decide) (by rw [c4]; rfl) (by decide) ?_
          refine lv_bipush (v := 12) hx hb dX7_costBy_79 (by decide) ?_
          refine lv_aload_n hx hb dX7_costBy_81 rfl (lv_at hl 0 rfl) ?_
          replace h := bd h
          obtain ⟨x29, q30, h⟩ := h
          refine fg_6_7 hx hb hts hown hK hP wd_894 q30 dX7_costBy_82 ?_
          refine lv_iconst (v := 1) hx hb dX7_costBy_85 (by decide) ?_
          refine lv_isub hx hb dX7_costBy_86 ?_
          refine lv_aload_n hx hb dX7_costBy_87 rfl (lv_at hl 0 rfl) ?_
          replace h := bd h
          obtain ⟨_, q31, h⟩ := h
          replace h := bd h
          obtain ⟨x33, q32, h⟩ := h
          refine c_X7_stepBits ⟨hx, hb, hml, hown, hts⟩ hl.1 hK hP hS wd_988 ⟨(Nat.le_of_ble_eq_true rfl), (Nat.le_of_ble_eq_true rfl)⟩ q32 q31 (Nat.le_of_ble_eq_true rfl) dX7_costBy_88 ⟨(Nat.le_of_ble_eq_true rfl), (Nat.le_of_ble_eq_true rfl)⟩ (fun H locs hP hS => ?_)
          refine lv_imul hx hb dX7_costBy_91 ?_
          refine lv_iadd hx hb dX7_costBy_92 ?_
          cases h
          exact e_ip hx hb hlocks hr hS (Nat.le_of_ble_eq_true rfl) (Nat.le_of_ble_eq_true rfl) dX7_costBy_93
        · replace h := ifn c4 h
          by_cases c5 : a1 = 4
          · replace h := ifp c5 h
            refine lv_tableIn (off := 93) (tgt := 94) hx hb dX7_costBy_1 (by rw [c5]; decide) (by rw [c5]; decide) (by rw [c5]; rfl) (by decide) ?_
            refine lv_bipush (v := 8) hx hb dX7_costBy_94 (by decide) ?_
            refine lv_aload_n hx hb dX7_costBy_96 rfl (lv_at hl 0 rfl) ?_
            replace h := bd h
            obtain ⟨x34, q35, h⟩ := h
            refine fg_6_7 hx hb hts hown hK hP wd_894 q35 dX7_costBy_97 ?_
            refine lv_iadd hx hb dX7_costBy_100 ?_
            refine lv_bipush (v := 8) hx hb dX7_costBy_101 (by decide) ?_
            refine lv_aload_n hx hb dX7_costBy_103 rfl (lv_at hl 0 rfl) ?_
            replace h := bd h
            obtain ⟨_, q36, h⟩ := h
            replace h := bd h
            obtain ⟨x38, q37, h⟩ := h
            refine c_X7_rare ⟨hx, hb, hml, hown, hts⟩ hl.1 hK hP hS wd_992 ⟨(Nat.le_of_ble_eq_true rfl), (Nat.le_of_ble_eq_true rfl)⟩ q37 q36 (Nat.le_of_ble_eq_true rfl) dX7_costBy_104 ⟨(Nat.le_of_ble_eq_true rfl), (Nat.le_of_ble_eq_true rfl)⟩ (fun H locs hP hS => ?_)
            refine lv_imul hx hb dX7_costBy_107 ?_
            refine lv_iadd hx hb dX7_costBy_108 ?_
            cases h
            exact e_ip hx hb hlocks hr hS (Nat.le_of_ble_eq_true rfl) (Nat.le_of_ble_eq_true rfl) dX7_costBy_109
          · replace h := ifn c5 h
            refine lv_tableOut (tgt := 110) hx hb dX7_costBy_1 (tsw_out (x := a1) 0 5 (fun k hk => by match k, hk with | 0, _ => exact c1 | 1, _ => exact c2 | 2, _ => exact c3 | 3, _ => exact c4 | 4, _ => exact c5) (by decide)) (by decide) ?_
            refine lv_bipush (v := 12) hx hb dX7_costBy_110 (by decide) ?_
            refine lv_aload_n hx hb dX7_costBy_112 rfl (lv_at hl 0 rfl) ?_
            replace h := bd h
            obtain ⟨x6, q7, h⟩ := h
            refine fg_6_7 hx hb hts hown hK hP wd_894 q7 dX7_costBy_113 ?_
            refine lv_aload_n hx hb dX7_costBy_116 rfl (lv_at hl 0 rfl) ?_
            replace h := bd h
            obtain ⟨_, q8, h⟩ := h
            replace h := bd h
            obtain ⟨x10, q9, h⟩ := h
            refine c_X7_frameBits ⟨hx, hb, hml, hown, hts⟩ hl.1 hK hP hS wd_1004 ⟨(Nat.le_of_ble_eq_true rfl), (Nat.le_of_ble_eq_true rfl)⟩ q9 q8 (Nat.le_of_ble_eq_true rfl) dX7_costBy_117 ⟨(Nat.le_of_ble_eq_true rfl), (Nat.le_of_ble_eq_true rfl)⟩ (fun H locs hP hS => ?_)
            refine lv_imul hx hb dX7_costBy_120 ?_
            refine lv_iadd hx hb dX7_costBy_121 ?_
            cases h
            exact e_ip hx hb hlocks hr hS (Nat.le_of_ble_eq_true rfl) (Nat.le_of_ble_eq_true rfl) dX7_costBy_122
set_option maxRecDepth 100000 in
theorem c_X7_costBy {p : Program} {l : Launch} {e : Env} {R : Room} {s : State} {m : MethodId} {args : Array Value} {below : List Frame} {meth : Method} {c : Code} {H : Heap} {locs : List Loc} {cells slots : Nat} {Q : State → Prop} {cc : ByteArray} {pc index nL : Nat} {ls : Array Slot} {rest : List Value} {D : va_G} {cy : Nat → ClassId} {A0 : Nat → Prop} {S : St} {H0 : Heap} {own : String} {u : Unit} {a0 : Nat} {a1 : Int32} {r : Int32}  (hF : CallFix p m c cc nL s args ALLW own) (hsz : ls.size = nL) (hK : va_K D vwCl (tyL cy) s) (hP : SP D cy S H) (hS : va_S A0 H0 H locs) (hk : Cond.methodLink own index yX7_costBy ∈ ALLW) (hR : rm_X7_costBy.frames + 1 ≤ R.frames ∧ 8 + (2 + 11) + rm_X7_costBy.locals ≤ R.locals) (h : f_X7_costBy S a0 a1 = some r) (hc : oO S a0 6 = some u) (hW : (rest.map fun v => v.category).sum ≤ 8) (hdg : decode cc pc = .ok (.invokevirtual index, 3)) (hf : cells + 0 ≤ R.cells ∧ slots + 0 ≤ R.slots)
    (kk : ∀ (H1 : Heap) (locs1 : List Loc), SP D cy S H1 → va_S A0 H0 H1 locs1 → W p l e R s m args below meth c H1 locs1 (cells + 0) (slots + 0) Q (F0 m (pc + 3) ls (.int r :: rest))) : W p l e R s m args below meth c H locs cells slots Q (F0 m pc ls (.int a1 :: .ref a0 :: rest)) := by
  exact k_iVp (As := [.int a1]) hF hsz (m_X7_costBy l D cy S a0 a1 r h) (cwV_of (n := 1) hF.2.2.2.2 hk wd_971 wd_26 wd_75 wd_972 rfl rfl (by decide +kernel) hR) rfl hK hP hS (ci := 6) hc rfl hW rfl hdg hf kk
/-- VowBlocksModel.bestCode()I -/
def f_X7_bestCode_L4 (S4_ : St) (y4_0 : Nat) : Nat → Int32 → Int32 →  Option (Int32)
  | 0, _, _ => none
  | fu + 1, y4_1, y4_2 =>
    if 6 ≤ y4_2 then
      some y4_1
    else
      (oO S4_ y4_0 6).bind fun _ =>
      (f_X7_costBy S4_ y4_0 y4_2).bind fun x6 =>
      (oO S4_ y4_0 6).bind fun _ =>
      (f_X7_costBy S4_ y4_0 y4_1).bind fun x9 =>
      (
        if x9 ≤ x6 then
          some y4_1
        else
          some y4_2
      : Option (Int32)).bind fun t10 =>
      f_X7_bestCode_L4 S4_ y4_0 fu t10 (y4_2 + 1)
def f_X7_bestCode (S : St) (a0 : Nat) : Option (Int32) :=
  (f_X7_bestCode_L4 S a0 FU 0 1).bind fun z1 =>
  some z1
abbrev rm_X7_bestCode : Room := { frames := 4, cells := 0, slots := 0, locals := 87 }
set_option maxHeartbeats 4000000 in
set_option maxRecDepth 100000 in
theorem m_X7_bestCode (l : Launch) (D : va_G) (cy : Nat → ClassId) (S : St) (a0 : Nat) (r : Int32) (h : f_X7_bestCode S a0 = some r) : Met l yX7_bestCode (wsA yX7_bestCode cX7_bestCode 3 (some .int)) rm_X7_bestCode (va_Pc [.ref a0] (PS D cy S)) (va_Qi (fun r' (_ : Unit) => r' = r) (fun _ _ => True) noA) 0 0 noA := by
  refine Met.ofW (cc := cX7_bestCode) (maxL := 3) (ret := (some .int)) (by decide) rfl ?_
  intro p e s m args below meth c s₁ B hml hv
  obtain ⟨rfl, hP, hK⟩ := hv
  have hx := B.exec
  have hb := B.bytes
  have hr := B.returns
  have hts9 := atoms_spec (ws := wsA yX7_bestCode cX7_bestCode 3 (some .int)) B.pre
  have hts : ∀ w ∈ ALLW, w.before _ s = true := fun w h => hts9 w (List.mem_cons_of_mem _ h)
  have hown : s.vm.findClass RX7 = some m.cls := findClass_of_methodNamed B.named
  have hlocks := B.notSynchronized
  have hS : va_S noA s.heap s.heap [] := va_S.rf
  have hl := lv_entry [.ref a0] (n := 3) (Nat.le_of_ble_eq_true rfl)
  rw [lg_entry_eq]
  generalize (lg_sl [.ref a0] ++ List.replicate (3 - (lg_sl [.ref a0]).length) Slot.unset).toArray = ls at hl ⊢
  have hl : lv_has ls 3 [(0, .ref a0)] := hl
  rw [f_X7_bestCode] at h
  refine lv_iconst (v := 0) hx hb dX7_bestCode_0 (by decide) ?_
  refine lv_istore_n (lv' := [(1, .int 0), (0, .ref a0)]) hx hb dX7_bestCode_1 rfl hl (by decide) rfl (fun ls hl => ?_)
  refine lv_iconst (v := 1) hx hb dX7_bestCode_2 (by decide) ?_
  refine lv_istore_n (lv' := [(2, .int 1), (1, .int 0), (0, .ref a0)]) hx hb dX7_bestCode_3 rfl hl (by decide) rfl (fun ls hl => ?_)
  have L4 : ∀ (S4_ : St) (y4_0 : Nat) (fu : Nat) (y4_1 : Int32) (y4_2 : Int32) (res : Int32), f_X7_bestCode_L4 S4_ y4_0 fu y4_1 y4_2 = some res → ∀ (H : Heap) (locs : List Loc) (ls : Array Slot), SP D cy S4_ H → va_S noA s.heap H locs → lv_has ls 3 [(0, .ref y4_0), (1, .int y4_1), (2, .int y4_2)] → (∀ (H : Heap) (locs : List Loc) (ls : Array Slot), SP D cy S4_ H → va_S noA s.heap H locs → lv_has ls 3 [(1, .int res)] → W p l e rm_X7_bestCode s m ([.ref a0] : List Value).toArray below meth c H locs 0 0 (MQ below (va_Qi (fun r' (_ : Unit) => r' = r) (fun _ _ => True) noA) ([.ref a0] : List Value).toArray s 0 0 noA) (F0 m 35 ls [])) → W p l e rm_X7_bestCode s m ([.ref a0] : List Value).toArray below meth c H locs 0 0 (MQ below (va_Qi (fun r' (_ : Unit) => r' = r) (fun _ _ => True) noA) ([.ref a0] : List Value).toArray s 0 0 noA) (F0 m 4 ls []) := by
    intro S4_ y4_0 fu
    induction fu with
    | zero =>
      intro y4_1 y4_2 res h
      rw [f_X7_bestCode_L4] at h
      cases h
    | succ fu ih =>
      intro y4_1 y4_2 res h H locs ls hP hS hl hexit
      rw [f_X7_bestCode_L4] at h
      refine lv_iload_n hx hb dX7_bestCode_4 rfl (lv_at hl 2 rfl) ?_
      refine lv_bipush (v := 6) hx hb dX7_bestCode_5 (by decide) ?_
      refine lv_icmp_ge (tgt := 35) hx hb dX7_bestCode_7 (by decide) (fun c3 => ?_) (fun c3 => ?_)
      · replace h := ifp c3 h
        cases h
        exact hexit _ _ _ hP hS (lv_sub hl [1] rfl)
      · replace h := ifn c3 h
        refine lv_aload_n hx hb dX7_bestCode_10 rfl (lv_at hl 0 rfl) ?_
        refine lv_iload_n hx hb dX7_bestCode_11 rfl (lv_at hl 2 rfl) ?_
        replace h := bd h
        obtain ⟨_, q4, h⟩ := h
        replace h := bd h
        obtain ⟨x6, q5, h⟩ := h
        refine c_X7_costBy ⟨hx, hb, hml, hown, hts⟩ hl.1 hK hP hS wd_969 ⟨(Nat.le_of_ble_eq_true rfl), (Nat.le_of_ble_eq_true rfl)⟩ q5 q4 (Nat.le_of_ble_eq_true rfl) dX7_bestCode_12 ⟨(Nat.le_of_ble_eq_true rfl), (Nat.le_of_ble_eq_true rfl)⟩ (fun H locs hP hS => ?_)
        refine lv_aload_n hx hb dX7_bestCode_15 rfl (lv_at hl 0 rfl) ?_
        refine lv_iload_n hx hb dX7_bestCode_16 rfl (lv_at hl 1 rfl) ?_
        replace h := bd h
        obtain ⟨_, q7, h⟩ := h
        replace h := bd h
        obtain ⟨x9, q8, h⟩ := h
        refine c_X7_costBy ⟨hx, hb, hml, hown, hts⟩ hl.1 hK hP hS wd_969 ⟨(Nat.le_of_ble_eq_true rfl), (Nat.le_of_ble_eq_true rfl)⟩ q8 q7 (Nat.le_of_ble_eq_true rfl) dX7_bestCode_17 ⟨(Nat.le_of_ble_eq_true rfl), (Nat.le_of_ble_eq_true rfl)⟩ (fun H locs hP hS => ?_)
        replace h := bd h
        obtain ⟨t10, ht, h⟩ := h
        have K10 : ∀ (H : Heap) (locs : List Loc) (ls : Array Slot), SP D cy S4_ H → va_S noA s.heap H locs → lv_has ls 3 [(0, .ref y4_0), (2, .int y4_2)] → W p l e rm_X7_bestCode s m ([.ref a0] : List Value).toArray below meth c H locs 0 0 (MQ below (va_Qi (fun r' (_ : Unit) => r' = r) (fun _ _ => True) noA) ([.ref a0] : List Value).toArray s 0 0 noA) (F0 m 28 ls [.int t10]) := by
          intro H locs ls hP hS hl
          refine lv_istore_n (lv' := [(1, .int t10), (0, .ref y4_0), (2, .int y4_2)]) hx hb dX7_bestCode_28 rfl hl (by decide) rfl (fun ls hl => ?_)
          refine lv_iinc (v := (y4_2 + 1)) (lv' := [(2, .int (y4_2 + 1)), (1, .int t10), (0, .ref y4_0)]) hx hb dX7_bestCode_29 hl (k := 2) rfl rfl (by decide) rfl (fun ls hl => ?_)
          refine lv_goto (tgt := 4) hx hb dX7_bestCode_32 (by decide) ?_
          exact ih t10 (y4_2 + 1) _ h _ _ _ hP hS (lv_sub hl [2, 1, 0] rfl) hexit
        replace h := ht
        refine lv_icmp_ge (tgt := 27) hx hb dX7_bestCode_20 (by decide) (fun c11 => ?_) (fun c11 => ?_)
        · replace h := ifp c11 h
          refine lv_iload_n hx hb dX7_bestCode_27 rfl (lv_at hl 1 rfl) ?_
          cases h
          exact K10 _ _ _ hP hS (lv_sub hl [0, 2] rfl)
        · replace h := ifn c11 h
          refine lv_iload_n hx hb dX7_bestCode_23 rfl (lv_at hl 2 rfl) ?_
          refine lv_goto (tgt := 28) hx hb dX7_bestCode_24 (by decide) ?_
          cases h
          exact K10 _ _ _ hP hS (lv_sub hl [0, 2] rfl)
  replace h := bd h
  obtain ⟨z1, q12, h⟩ := h
  refine L4 S a0 FU 0 1 z1 q12 _ _ _ hP hS (lv_sub hl [2, 1, 0] rfl) (fun H locs ls hP hS hl => ?_)
  refine lv_iload_n hx hb dX7_bestCode_35 rfl (lv_at hl 0 rfl) ?_
  cases h
  exact e_ip hx hb hlocks hr hS (Nat.le_of_ble_eq_true rfl) (Nat.le_of_ble_eq_true rfl) dX7_bestCode_36
set_option maxRecDepth 100000 in
theorem c_X7_bestCode {p : Program} {l : Launch} {e : Env} {R : Room} {s : State} {m : MethodId} {args : Array Value} {below : List Frame} {meth : Method} {c : Code} {H : Heap} {locs : List Loc} {cells slots : Nat} {Q : State → Prop} {cc : ByteArray} {pc index nL : Nat} {ls : Array Slot} {rest : List Value} {D : va_G} {cy : Nat → ClassId} {A0 : Nat → Prop} {S : St} {H0 : Heap} {own : String} {u : Unit} {a0 : Nat} {r : Int32}  (hF : CallFix p m c cc nL s args ALLW own) (hsz : ls.size = nL) (hK : va_K D vwCl (tyL cy) s) (hP : SP D cy S H) (hS : va_S A0 H0 H locs) (hk : Cond.methodLink own index yX7_bestCode ∈ ALLW) (hR : rm_X7_bestCode.frames + 1 ≤ R.frames ∧ 8 + (3 + 11) + rm_X7_bestCode.locals ≤ R.locals) (h : f_X7_bestCode S a0 = some r) (hc : oO S a0 6 = some u) (hW : (rest.map fun v => v.category).sum ≤ 8) (hdg : decode cc pc = .ok (.invokevirtual index, 3)) (hf : cells + 0 ≤ R.cells ∧ slots + 0 ≤ R.slots)
    (kk : ∀ (H1 : Heap) (locs1 : List Loc), SP D cy S H1 → va_S A0 H0 H1 locs1 → W p l e R s m args below meth c H1 locs1 (cells + 0) (slots + 0) Q (F0 m (pc + 3) ls (.int r :: rest))) : W p l e R s m args below meth c H locs cells slots Q (F0 m pc ls (.ref a0 :: rest)) := by
  exact k_iVp (As := []) hF hsz (m_X7_bestCode l D cy S a0 r h) (cwV_of (n := 0) hF.2.2.2.2 hk wd_967 wd_25 wd_75 wd_968 rfl rfl (by decide +kernel) hR) rfl hK hP hS (ci := 6) hc rfl hW rfl hdg hf kk
/-- VowBlocksModel.choose(I)V -/
def f_X7_choose (S : St) (a0 : Nat) (a1 : Int32) : Option (St) :=
  (oO S a0 6).bind fun _ =>
  (f_X7_lay S a0 a1).bind fun z3 =>
  (oO z3 a0 6).bind fun _ =>
  (f_X7_bestCode z3 a0).bind fun x6 =>
  (oO z3 a0 6).bind fun _ =>
  (f_X7_setOf z3 a0 a1 1 x6).bind fun z9 =>
  (gR z9 a0 6 0).bind fun x10 =>
  (aI z9 x10 3).bind fun x12 =>
  (oO z9 a0 6).bind fun _ =>
  (f_X7_setOf z9 a0 a1 2 x12).bind fun z16 =>
  (oO z16 a0 6).bind fun _ =>
  (f_X7_of z16 a0 a1 7).bind fun x19 =>
  (oO z16 a0 6).bind fun _ =>
  (f_X7_setOf z16 a0 a1 7 (x19 + 1)).bind fun z22 =>
  some z22
abbrev rm_X7_choose : Room := { frames := 5, cells := 0, slots := 0, locals := 109 }
set_option maxHeartbeats 4000000 in
set_option maxRecDepth 100000 in
theorem m_X7_choose (l : Launch) (D : va_G) (cy : Nat → ClassId) (sz : Nat) (S : St) (a0 : Nat) (a1 : Int32) (S1 : St) (h : f_X7_choose S a0 a1 = some S1) : Met l yX7_choose (wsA yX7_choose cX7_choose 2 none) rm_X7_choose (va_Pc [.ref a0, .int a1] (PN D cy S sz)) (va_Qv (fun _ : Unit => True) (fun _ t => PoS D cy S1 (dm S sz) t) (dm S sz)) 0 0 (dm S sz) := by
  refine Met.ofW (cc := cX7_choose) (maxL := 2) (ret := none) (by decide) rfl ?_
  intro p e s m args below meth c s₁ B hml hv
  obtain ⟨rfl, hsz, hP, hK⟩ := hv
  have hx := B.exec
  have hb := B.bytes
  have hr := B.returns
  have hts9 := atoms_spec (ws := wsA yX7_choose cX7_choose 2 none) B.pre
  have hts : ∀ w ∈ ALLW, w.before _ s = true := fun w h => hts9 w (List.mem_cons_of_mem _ h)
  have hown : s.vm.findClass RX7 = some m.cls := findClass_of_methodNamed B.named
  have hlocks := B.notSynchronized
  subst hsz
  have hD : ∀ a, S a ≠ none → dm S s.heap.size a := fun a h => Or.inl h
  have hA : ∀ q : Nat, s.heap.size ≤ q → dm S s.heap.size q := fun q h => Or.inr h
  have hS : va_S (dm S s.heap.size) s.heap s.heap [] := va_S.rf
  have hl := lv_entry [.ref a0, .int a1] (n := 2) (Nat.le_of_ble_eq_true rfl)
  rw [lg_entry_eq]
  generalize (lg_sl [.ref a0, .int a1] ++ List.replicate (2 - (lg_sl [.ref a0, .int a1]).length) Slot.unset).toArray = ls at hl ⊢
  have hl : lv_has ls 2 [(0, .ref a0), (1, .int a1)] := hl
  rw [f_X7_choose] at h
  refine lv_aload_n hx hb dX7_choose_0 rfl (lv_at hl 0 rfl) ?_
  refine lv_iload_n hx hb dX7_choose_1 rfl (lv_at hl 1 rfl) ?_
  replace h := bd h
  obtain ⟨_, q1, h⟩ := h
  replace h := bd h
  obtain ⟨z3, q2, h⟩ := h
  refine c_X7_lay ⟨hx, hb, hml, hown, hts⟩ hl.1 hK hP hD hA hS wd_957 ⟨(Nat.le_of_ble_eq_true rfl), (Nat.le_of_ble_eq_true rfl)⟩ q2 q1 (Nat.le_of_ble_eq_true rfl) dX7_choose_2 ⟨(Nat.le_of_ble_eq_true rfl), (Nat.le_of_ble_eq_true rfl)⟩ (fun H locs hP hD hS => ?_)
  refine lv_aload_n hx hb dX7_choose_5 rfl (lv_at hl 0 rfl) ?_
  refine lv_iload_n hx hb dX7_choose_6 rfl (lv_at hl 1 rfl) ?_
  refine lv_iconst (v := 1) hx hb dX7_choose_7 (by decide) ?_
  refine lv_aload_n hx hb dX7_choose_8 rfl (lv_at hl 0 rfl) ?_
  replace h := bd h
  obtain ⟨_, q4, h⟩ := h
  replace h := bd h
  obtain ⟨x6, q5, h⟩ := h
  refine c_X7_bestCode ⟨hx, hb, hml, hown, hts⟩ hl.1 hK hP hS wd_965 ⟨(Nat.le_of_ble_eq_true rfl), (Nat.le_of_ble_eq_true rfl)⟩ q5 q4 (Nat.le_of_ble_eq_true rfl) dX7_choose_9 ⟨(Nat.le_of_ble_eq_true rfl), (Nat.le_of_ble_eq_true rfl)⟩ (fun H locs hP hS => ?_)
  replace h := bd h
  obtain ⟨_, q7, h⟩ := h
  replace h := bd h
  obtain ⟨z9, q8, h⟩ := h
  refine c_X7_setOf ⟨hx, hb, hml, hown, hts⟩ hl.1 hK hP hD hA hS wd_949 ⟨(Nat.le_of_ble_eq_true rfl), (Nat.le_of_ble_eq_true rfl)⟩ q8 q7 (Nat.le_of_ble_eq_true rfl) dX7_choose_12 ⟨(Nat.le_of_ble_eq_true rfl), (Nat.le_of_ble_eq_true rfl)⟩ (fun H locs hP hD hS => ?_)
  refine lv_aload_n hx hb dX7_choose_15 rfl (lv_at hl 0 rfl) ?_
  refine lv_iload_n hx hb dX7_choose_16 rfl (lv_at hl 1 rfl) ?_
  refine lv_iconst (v := 2) hx hb dX7_choose_17 (by decide) ?_
  refine lv_aload_n hx hb dX7_choose_18 rfl (lv_at hl 0 rfl) ?_
  replace h := bd h
  obtain ⟨x10, q11, h⟩ := h
  refine fg_6_0 hx hb hts hown hK hP wd_887 q11 dX7_choose_19 ?_
  refine lv_iconst (v := 3) hx hb dX7_choose_22 (by decide) ?_
  replace h := bd h
  obtain ⟨x12, q13, h⟩ := h
  refine r_aI hx hb hK hP q13 dX7_choose_23 ?_
  replace h := bd h
  obtain ⟨_, q14, h⟩ := h
  replace h := bd h
  obtain ⟨z16, q15, h⟩ := h
  refine c_X7_setOf ⟨hx, hb, hml, hown, hts⟩ hl.1 hK hP hD hA hS wd_949 ⟨(Nat.le_of_ble_eq_true rfl), (Nat.le_of_ble_eq_true rfl)⟩ q15 q14 (Nat.le_of_ble_eq_true rfl) dX7_choose_24 ⟨(Nat.le_of_ble_eq_true rfl), (Nat.le_of_ble_eq_true rfl)⟩ (fun H locs hP hD hS => ?_)
  refine lv_aload_n hx hb dX7_choose_27 rfl (lv_at hl 0 rfl) ?_
  refine lv_iload_n hx hb dX7_choose_28 rfl (lv_at hl 1 rfl) ?_
  refine lv_bipush (v := 7) hx hb dX7_choose_29 (by decide) ?_
  refine lv_aload_n hx hb dX7_choose_31 rfl (lv_at hl 0 rfl) ?_
  refine lv_iload_n hx hb dX7_choose_32 rfl (lv_at hl 1 rfl) ?_
  refine lv_bipush (v := 7) hx hb dX7_choose_33 (by decide) ?_
  replace h := bd h
  obtain ⟨_, q17, h⟩ := h
  replace h := bd h
  obtain ⟨x19, q18, h⟩ := h
  refine c_X7_of ⟨hx, hb, hml, hown, hts⟩ hl.1 hK hP hS wd_961 ⟨(Nat.le_of_ble_eq_true rfl), (Nat.le_of_ble_eq_true rfl)⟩ q18 q17 (Nat.le_of_ble_eq_true rfl) dX7_choose_35 ⟨(Nat.le_of_ble_eq_true rfl), (Nat.le_of_ble_eq_true rfl)⟩ (fun H locs hP hS => ?_)
  refine lv_iconst (v := 1) hx hb dX7_choose_38 (by decide) ?_
  refine lv_iadd hx hb dX7_choose_39 ?_
  replace h := bd h
  obtain ⟨_, q20, h⟩ := h
  replace h := bd h
  obtain ⟨z22, q21, h⟩ := h
  refine c_X7_setOf ⟨hx, hb, hml, hown, hts⟩ hl.1 hK hP hD hA hS wd_949 ⟨(Nat.le_of_ble_eq_true rfl), (Nat.le_of_ble_eq_true rfl)⟩ q21 q20 (Nat.le_of_ble_eq_true rfl) dX7_choose_40 ⟨(Nat.le_of_ble_eq_true rfl), (Nat.le_of_ble_eq_true rfl)⟩ (fun H locs hP hD hS => ?_)
  cases h
  exact e_vm hx hb hlocks hr hP hD hS (Nat.le_of_ble_eq_true rfl) (Nat.le_of_ble_eq_true rfl) dX7_choose_43
set_option maxRecDepth 100000 in
theorem c_X7_choose {p : Program} {l : Launch} {e : Env} {R : Room} {s : State} {m : MethodId} {args : Array Value} {below : List Frame} {meth : Method} {c : Code} {H : Heap} {locs : List Loc} {cells slots : Nat} {Q : State → Prop} {cc : ByteArray} {pc index nL : Nat} {ls : Array Slot} {rest : List Value} {D : va_G} {cy : Nat → ClassId} {A0 : Nat → Prop} {S : St} {H0 : Heap} {own : String} {u : Unit} {a0 : Nat} {a1 : Int32} {S1 : St}  (hF : CallFix p m c cc nL s args ALLW own) (hsz : ls.size = nL) (hK : va_K D vwCl (tyL cy) s) (hP : SP D cy S H) (hD : ∀ a, S a ≠ none → A0 a) (hA : ∀ q, H0.size ≤ q → A0 q) (hS : va_S A0 H0 H locs) (hk : Cond.methodLink own index yX7_choose ∈ ALLW) (hR : rm_X7_choose.frames + 1 ≤ R.frames ∧ 8 + (2 + 11) + rm_X7_choose.locals ≤ R.locals) (h : f_X7_choose S a0 a1 = some S1) (hc : oO S a0 6 = some u) (hW : (rest.map fun v => v.category).sum ≤ 8) (hdg : decode cc pc = .ok (.invokevirtual index, 3)) (hf : cells + 0 ≤ R.cells ∧ slots + 0 ≤ R.slots)
    (kk : ∀ (H1 : Heap) (locs1 : List Loc), SP D cy S1 H1 → (∀ a, S1 a ≠ none → A0 a) → va_S A0 H0 H1 locs1 → W p l e R s m args below meth c H1 locs1 (cells + 0) (slots + 0) Q (F0 m (pc + 3) ls (rest))) : W p l e R s m args below meth c H locs cells slots Q (F0 m pc ls (.int a1 :: .ref a0 :: rest)) := by
  exact k_vVm (As := [.int a1]) hF hsz (m_X7_choose l D cy H.size S a0 a1 S1 h) (cwV_of (n := 1) hF.2.2.2.2 hk wd_955 wd_22 wd_75 wd_956 rfl rfl (by decide +kernel) hR) rfl hK hP hD hA hS (ci := 6) hc rfl hW rfl hdg hf kk
/-- VowBlocksModel.make(II)I -/
def f_X7_make_L63 (y63_0 : Nat) (y63_1 : Int32) (y63_2 : Int32) (y63_3 : Int32) : Nat → St → Int32 →  Option (St)
  | 0, _, _ => none
  | fu + 1, S63_, y63_4 =>
    if y63_2 ≤ y63_4 then
      some S63_
    else
      (oO S63_ y63_0 6).bind fun _ =>
      (f_X7_setOf S63_ y63_0 y63_3 (8 + y63_4) y63_1).bind fun z29 =>
      f_X7_make_L63 y63_0 y63_1 y63_2 y63_3 fu z29 (y63_4 + 1)
def f_X7_make (S : St) (a0 : Nat) (a1 : Int32) (a2 : Int32) : Option (Int32 × St) :=
  (f_X7_isValue a1).bind fun x2 =>
  (
    if x2 = 0 then
      some 1
    else
      (f_X7_within a2 1 24).bind fun x6 =>
      if x6 = 0 then
        some 1
      else
        (gR S a0 6 0).bind fun x8 =>
        (aI S x8 2).bind fun x10 =>
        if x10 = 8 then
          some 2
        else
          some 0
  : Option (Int32)).bind fun t3 =>
  (pI S a0 6 5 t3).bind fun Z13 =>
  (gI Z13 a0 6 5).bind fun x15 =>
  if x15 ≤ 0 then
    (oO Z13 a0 6).bind fun _ =>
    (f_X7_save Z13 a0).bind fun z20 =>
    (oO z20 a0 6).bind fun _ =>
    (f_X7_begin z20 a0 a2).bind fun z23 =>
    (f_X7_make_L63 a0 a1 a2 z23.1 FU z23.2 0).bind fun z24 =>
    (oO z24 a0 6).bind fun _ =>
    (f_X7_choose z24 a0 z23.1).bind fun z33 =>
    some (z23.1, z33)
  else
    some (0, Z13)
abbrev rm_X7_make : Room := { frames := 6, cells := 0, slots := 0, locals := 130 }
set_option maxHeartbeats 4000000 in
set_option maxRecDepth 100000 in
theorem m_X7_make (l : Launch) (D : va_G) (cy : Nat → ClassId) (sz : Nat) (S : St) (a0 : Nat) (a1 : Int32) (a2 : Int32) (r : Int32) (S1 : St) (h : f_X7_make S a0 a1 a2 = some (r, S1)) : Met l yX7_make (wsA yX7_make cX7_make 5 (some .int)) rm_X7_make (va_Pc [.ref a0, .int a1, .int a2] (PN D cy S sz)) (va_Qi (fun r' (_ : Unit) => r' = r) (fun _ t => PoS D cy S1 (dm S sz) t) (dm S sz)) 0 0 (dm S sz) := by
  refine Met.ofW (cc := cX7_make) (maxL := 5) (ret := (some .int)) (by decide) rfl ?_
  intro p e s m args below meth c s₁ B hml hv
  obtain ⟨rfl, hsz, hP, hK⟩ := hv
  have hx := B.exec
  have hb := B.bytes
  have hr := B.returns
  have hts9 := atoms_spec (ws := wsA yX7_make cX7_make 5 (some .int)) B.pre
  have hts : ∀ w ∈ ALLW, w.before _ s = true := fun w h => hts9 w (List.mem_cons_of_mem _ h)
  have hown : s.vm.findClass RX7 = some m.cls := findClass_of_methodNamed B.named
  have hlocks := B.notSynchronized
  subst hsz
  have hD : ∀ a, S a ≠ none → dm S s.heap.size a := fun a h => Or.inl h
  have hA : ∀ q : Nat, s.heap.size ≤ q → dm S s.heap.size q := fun q h => Or.inr h
  have hS : va_S (dm S s.heap.size) s.heap s.heap [] := va_S.rf
  have hl := lv_entry [.ref a0, .int a1, .int a2] (n := 5) (Nat.le_of_ble_eq_true rfl)
  rw [lg_entry_eq]
  generalize (lg_sl [.ref a0, .int a1, .int a2] ++ List.replicate (5 - (lg_sl [.ref a0, .int a1, .int a2]).length) Slot.unset).toArray = ls at hl ⊢
  have hl : lv_has ls 5 [(0, .ref a0), (1, .int a1), (2, .int a2)] := hl
  rw [f_X7_make] at h
  refine lv_aload_n hx hb dX7_make_0 rfl (lv_at hl 0 rfl) ?_
  refine lv_iload_n hx hb dX7_make_1 rfl (lv_at hl 1 rfl) ?_
  replace h := bd h
  obtain ⟨x2, q1, h⟩ := h
  refine c_X7_isValue ⟨hx, hb, hml, hown, hts⟩ hl.1 hK hP hS wd_935 ⟨(Nat.le_of_ble_eq_true rfl), (Nat.le_of_ble_eq_true rfl)⟩ q1 (Nat.le_of_ble_eq_true rfl) dX7_make_2 ⟨(Nat.le_of_ble_eq_true rfl), (Nat.le_of_ble_eq_true rfl)⟩ (fun H locs hP hS => ?_)
  replace h := bd h
  obtain ⟨t3, ht, h⟩ := h
  have K3 : ∀ (H : Heap) (locs : List Loc) (ls : Array Slot), SP D cy S H → (∀ a, S a ≠ none → (dm S s.heap.size) a) → va_S (dm S s.heap.size) s.heap H locs → lv_has ls 5 [(0, .ref a0), (1, .int a1), (2, .int a2)] → W p l e rm_X7_make s m ([.ref a0, .int a1, .int a2] : List Value).toArray below meth c H locs 0 0 (MQ below (va_Qi (fun r' (_ : Unit) => r' = r) (fun _ t => PoS D cy S1 (dm S s.heap.size) t) (dm S s.heap.size)) ([.ref a0, .int a1, .int a2] : List Value).toArray s 0 0 (dm S s.heap.size)) (F0 m 38 ls [.int t3, .ref a0]) := by
    intro H locs ls hP hD hS hl
    replace h := bd h
    obtain ⟨Z13, q14, h⟩ := h
    refine fp_6_5 hx hb hts hown hK hP hD hS wd_892 q14 dX7_make_38 (fun H locs hz9 hP hD hS => ?_)
    refine lv_aload_n hx hb dX7_make_41 rfl (lv_at hl 0 rfl) ?_
    replace h := bd h
    obtain ⟨x15, q16, h⟩ := h
    refine fg_6_5 hx hb hts hown hK hP wd_892 q16 dX7_make_42 ?_
    refine lv_if_le (tgt := 50) hx hb dX7_make_45 (by decide) (fun c17 => ?_) (fun c17 => ?_)
    · replace h := ifp c17 h
      refine lv_aload_n hx hb dX7_make_50 rfl (lv_at hl 0 rfl) ?_
      replace h := bd h
      obtain ⟨_, q18, h⟩ := h
      replace h := bd h
      obtain ⟨z20, q19, h⟩ := h
      refine c_X7_save ⟨hx, hb, hml, hown, hts⟩ hl.1 hK hP hD hA hS wd_941 ⟨(Nat.le_of_ble_eq_true rfl), (Nat.le_of_ble_eq_true rfl)⟩ q19 q18 (Nat.le_of_ble_eq_true rfl) dX7_make_51 ⟨(Nat.le_of_ble_eq_true rfl), (Nat.le_of_ble_eq_true rfl)⟩ (fun H locs hP hD hS => ?_)
      refine lv_aload_n hx hb dX7_make_54 rfl (lv_at hl 0 rfl) ?_
      refine lv_iload_n hx hb dX7_make_55 rfl (lv_at hl 2 rfl) ?_
      replace h := bd h
      obtain ⟨_, q21, h⟩ := h
      replace h := bd h
      obtain ⟨z23, q22, h⟩ := h
      refine c_X7_begin ⟨hx, hb, hml, hown, hts⟩ hl.1 hK hP hD hA hS wd_945 ⟨(Nat.le_of_ble_eq_true rfl), (Nat.le_of_ble_eq_true rfl)⟩ q22 q21 (Nat.le_of_ble_eq_true rfl) dX7_make_56 ⟨(Nat.le_of_ble_eq_true rfl), (Nat.le_of_ble_eq_true rfl)⟩ (fun H locs hP hD hS => ?_)
      refine lv_istore_n (lv' := [(3, .int z23.1), (0, .ref a0), (1, .int a1), (2, .int a2)]) hx hb dX7_make_59 rfl hl (by decide) rfl (fun ls hl => ?_)
      refine lv_iconst (v := 0) hx hb dX7_make_60 (by decide) ?_
      refine lv_istore (lv' := [(4, .int 0), (3, .int z23.1), (0, .ref a0), (1, .int a1), (2, .int a2)]) hx hb dX7_make_61 hl (by decide) rfl (fun ls hl => ?_)
      have L63 : ∀ (y63_0 : Nat) (y63_1 : Int32) (y63_2 : Int32) (y63_3 : Int32) (fu : Nat) (S63_ : St) (y63_4 : Int32) (res : St), f_X7_make_L63 y63_0 y63_1 y63_2 y63_3 fu S63_ y63_4 = some res → ∀ (H : Heap) (locs : List Loc) (ls : Array Slot), SP D cy S63_ H → (∀ a, S63_ a ≠ none → (dm S s.heap.size) a) → va_S (dm S s.heap.size) s.heap H locs → lv_has ls 5 [(0, .ref y63_0), (1, .int y63_1), (2, .int y63_2), (3, .int y63_3), (4, .int y63_4)] → (∀ (H : Heap) (locs : List Loc) (ls : Array Slot), SP D cy res H → (∀ a, res a ≠ none → (dm S s.heap.size) a) → va_S (dm S s.heap.size) s.heap H locs → lv_has ls 5 [(0, .ref y63_0), (3, .int y63_3)] → W p l e rm_X7_make s m ([.ref a0, .int a1, .int a2] : List Value).toArray below meth c H locs 0 0 (MQ below (va_Qi (fun r' (_ : Unit) => r' = r) (fun _ t => PoS D cy S1 (dm S s.heap.size) t) (dm S s.heap.size)) ([.ref a0, .int a1, .int a2] : List Value).toArray s 0 0 (dm S s.heap.size)) (F0 m 86 ls [])) → W p l e rm_X7_make s m ([.ref a0, .int a1, .int a2] : List Value).toArray below meth c H locs 0 0 (MQ below (va_Qi (fun r' (_ : Unit) => r' = r) (fun _ t => PoS D cy S1 (dm S s.heap.size) t) (dm S s.heap.size)) ([.ref a0, .int a1, .int a2] : List Value).toArray s 0 0 (dm S s.heap.size)) (F0 m 63 ls []) := by
        intro y63_0 y63_1 y63_2 y63_3 fu
        induction fu with
        | zero =>
          intro S63_ y63_4 res h
          rw [f_X7_make_L63] at h
          cases h
        | succ fu ih =>
          intro S63_ y63_4 res h H locs ls hP hD hS hl hexit
          rw [f_X7_make_L63] at h
          refine lv_iload hx hb dX7_make_63 (lv_at hl 4 rfl) ?_
          refine lv_iload_n hx hb dX7_make_65 rfl (lv_at hl 2 rfl) ?_
          refine lv_icmp_ge (tgt := 86) hx hb dX7_make_66 (by decide) (fun c26 => ?_) (fun c26 => ?_)
          · replace h := ifp c26 h
            cases h
            exact hexit _ _ _ hP hD hS (lv_sub hl [0, 3] rfl)
          · replace h := ifn c26 h
            refine lv_aload_n hx hb dX7_make_69 rfl (lv_at hl 0 rfl) ?_
            refine lv_iload_n hx hb dX7_make_70 rfl (lv_at hl 3 rfl) ?_
            refine lv_bipush (v := 8) hx hb dX7_make_71 (by decide) ?_
            refine lv_iload hx hb dX7_make_73 (lv_at hl 4 rfl) ?_
            refine lv_iadd hx hb dX7_make_75 ?_
            refine lv_iload_n hx hb dX7_make_76 rfl (lv_at hl 1 rfl) ?_
            replace h := bd h
            obtain ⟨_, q27, h⟩ := h
            replace h := bd h
            obtain ⟨z29, q28, h⟩ := h
            refine c_X7_setOf ⟨hx, hb, hml, hown, hts⟩ hl.1 hK hP hD hA hS wd_949 ⟨(Nat.le_of_ble_eq_true rfl), (Nat.le_of_ble_eq_true rfl)⟩ q28 q27 (Nat.le_of_ble_eq_true rfl) dX7_make_77 ⟨(Nat.le_of_ble_eq_true rfl), (Nat.le_of_ble_eq_true rfl)⟩ (fun H locs hP hD hS => ?_)
            refine lv_iinc (v := (y63_4 + 1)) (lv' := [(4, .int (y63_4 + 1)), (0, .ref y63_0), (1, .int y63_1), (2, .int y63_2), (3, .int y63_3)]) hx hb dX7_make_80 hl (k := 4) rfl rfl (by decide) rfl (fun ls hl => ?_)
            refine lv_goto (tgt := 63) hx hb dX7_make_83 (by decide) ?_
            exact ih z29 (y63_4 + 1) _ h _ _ _ hP hD hS (lv_sub hl [1, 2, 3, 4, 0] rfl) hexit
      replace h := bd h
      obtain ⟨z24, q30, h⟩ := h
      refine L63 a0 a1 a2 z23.1 FU z23.2 0 z24 q30 _ _ _ hP hD hS (lv_sub hl [2, 3, 4, 1, 0] rfl) (fun H locs ls hP hD hS hl => ?_)
      refine lv_aload_n hx hb dX7_make_86 rfl (lv_at hl 0 rfl) ?_
      refine lv_iload_n hx hb dX7_make_87 rfl (lv_at hl 1 rfl) ?_
      replace h := bd h
      obtain ⟨_, q31, h⟩ := h
      replace h := bd h
      obtain ⟨z33, q32, h⟩ := h
      refine c_X7_choose ⟨hx, hb, hml, hown, hts⟩ hl.1 hK hP hD hA hS wd_953 ⟨(Nat.le_of_ble_eq_true rfl), (Nat.le_of_ble_eq_true rfl)⟩ q32 q31 (Nat.le_of_ble_eq_true rfl) dX7_make_88 ⟨(Nat.le_of_ble_eq_true rfl), (Nat.le_of_ble_eq_true rfl)⟩ (fun H locs hP hD hS => ?_)
      refine lv_iload_n hx hb dX7_make_91 rfl (lv_at hl 1 rfl) ?_
      cases h
      exact e_im hx hb hlocks hr hP hD hS (Nat.le_of_ble_eq_true rfl) (Nat.le_of_ble_eq_true rfl) dX7_make_92
    · replace h := ifn c17 h
      refine lv_iconst (v := 0) hx hb dX7_make_48 (by decide) ?_
      cases h
      exact e_im hx hb hlocks hr hP hD hS (Nat.le_of_ble_eq_true rfl) (Nat.le_of_ble_eq_true rfl) dX7_make_49
  replace h := ht
  refine lv_if_eq (tgt := 18) hx hb dX7_make_5 (by decide) (fun c4 => ?_) (fun c4 => ?_)
  · replace h := ifp c4 h
    refine lv_iconst (v := 1) hx hb dX7_make_18 (by decide) ?_
    refine lv_goto (tgt := 38) hx hb dX7_make_19 (by decide) ?_
    cases h
    exact K3 _ _ _ hP hD hS (lv_sub hl [0, 1, 2] rfl)
  · replace h := ifn c4 h
    refine lv_iload_n hx hb dX7_make_8 rfl (lv_at hl 2 rfl) ?_
    refine lv_iconst (v := 1) hx hb dX7_make_9 (by decide) ?_
    refine lv_bipush (v := 24) hx hb dX7_make_10 (by decide) ?_
    replace h := bd h
    obtain ⟨x6, q5, h⟩ := h
    refine c_X7_within ⟨hx, hb, hml, hown, hts⟩ hl.1 hK hP hS wd_938 ⟨(Nat.le_of_ble_eq_true rfl), (Nat.le_of_ble_eq_true rfl)⟩ q5 (Nat.le_of_ble_eq_true rfl) dX7_make_12 ⟨(Nat.le_of_ble_eq_true rfl), (Nat.le_of_ble_eq_true rfl)⟩ (fun H locs hP hS => ?_)
    refine lv_if_ne (tgt := 22) hx hb dX7_make_15 (by decide) (fun c7 => ?_) (fun c7 => ?_)
    · replace h := ifn c7 h
      refine lv_aload_n hx hb dX7_make_22 rfl (lv_at hl 0 rfl) ?_
      replace h := bd h
      obtain ⟨x8, q9, h⟩ := h
      refine fg_6_0 hx hb hts hown hK hP wd_887 q9 dX7_make_23 ?_
      refine lv_iconst (v := 2) hx hb dX7_make_26 (by decide) ?_
      replace h := bd h
      obtain ⟨x10, q11, h⟩ := h
      refine r_aI hx hb hK hP q11 dX7_make_27 ?_
      refine lv_bipush (v := 8) hx hb dX7_make_28 (by decide) ?_
      refine lv_icmp_ne (tgt := 37) hx hb dX7_make_30 (by decide) (fun c12 => ?_) (fun c12 => ?_)
      · replace h := ifn c12 h
        refine lv_iconst (v := 0) hx hb dX7_make_37 (by decide) ?_
        cases h
        exact K3 _ _ _ hP hD hS (lv_sub hl [0, 1, 2] rfl)
      · replace h := ifp c12 h
        refine lv_iconst (v := 2) hx hb dX7_make_33 (by decide) ?_
        refine lv_goto (tgt := 38) hx hb dX7_make_34 (by decide) ?_
        cases h
        exact K3 _ _ _ hP hD hS (lv_sub hl [0, 1, 2] rfl)
    · replace h := ifp c7 h
      refine lv_iconst (v := 1) hx hb dX7_make_18 (by decide) ?_
      refine lv_goto (tgt := 38) hx hb dX7_make_19 (by decide) ?_
      cases h
      exact K3 _ _ _ hP hD hS (lv_sub hl [0, 1, 2] rfl)
set_option maxRecDepth 100000 in
theorem c_X7_make {p : Program} {l : Launch} {e : Env} {R : Room} {s : State} {m : MethodId} {args : Array Value} {below : List Frame} {meth : Method} {c : Code} {H : Heap} {locs : List Loc} {cells slots : Nat} {Q : State → Prop} {cc : ByteArray} {pc index nL : Nat} {ls : Array Slot} {rest : List Value} {D : va_G} {cy : Nat → ClassId} {A0 : Nat → Prop} {S : St} {H0 : Heap} {own : String} {u : Unit} {a0 : Nat} {a1 : Int32} {a2 : Int32} {r : Int32} {S1 : St}  (hF : CallFix p m c cc nL s args ALLW own) (hsz : ls.size = nL) (hK : va_K D vwCl (tyL cy) s) (hP : SP D cy S H) (hD : ∀ a, S a ≠ none → A0 a) (hA : ∀ q, H0.size ≤ q → A0 q) (hS : va_S A0 H0 H locs) (hk : Cond.methodLink own index yX7_make ∈ ALLW) (hR : rm_X7_make.frames + 1 ≤ R.frames ∧ 8 + (5 + 11) + rm_X7_make.locals ≤ R.locals) (h : f_X7_make S a0 a1 a2 = some (r, S1)) (hc : oO S a0 6 = some u) (hW : (rest.map fun v => v.category).sum ≤ 8) (hdg : decode cc pc = .ok (.invokevirtual index, 3)) (hf : cells + 0 ≤ R.cells ∧ slots + 0 ≤ R.slots)
    (kk : ∀ (H1 : Heap) (locs1 : List Loc), SP D cy S1 H1 → (∀ a, S1 a ≠ none → A0 a) → va_S A0 H0 H1 locs1 → W p l e R s m args below meth c H1 locs1 (cells + 0) (slots + 0) Q (F0 m (pc + 3) ls (.int r :: rest))) : W p l e R s m args below meth c H locs cells slots Q (F0 m pc ls (.int a2 :: .int a1 :: .ref a0 :: rest)) := by
  exact k_iVm (As := [.int a1, .int a2]) hF hsz (m_X7_make l D cy H.size S a0 a1 a2 r S1 h) (cwV_of (n := 2) hF.2.2.2.2 hk wd_932 wd_933 wd_75 wd_934 rfl rfl (by decide +kernel) hR) rfl hK hP hD hA hS (ci := 6) hc rfl hW rfl hdg hf kk
/-- VowBlocksModel.thrown()I -/
def f_X7_thrown (S : St) (a0 : Nat) : Option (Int32) :=
  (gI S a0 6 5).bind fun x1 =>
  some x1
abbrev rm_X7_thrown : Room := { frames := 0, cells := 0, slots := 0, locals := 0 }
set_option maxHeartbeats 4000000 in
set_option maxRecDepth 100000 in
theorem m_X7_thrown (l : Launch) (D : va_G) (cy : Nat → ClassId) (S : St) (a0 : Nat) (r : Int32) (h : f_X7_thrown S a0 = some r) : Met l yX7_thrown (wsA yX7_thrown cX7_thrown 1 (some .int)) rm_X7_thrown (va_Pc [.ref a0] (PS D cy S)) (va_Qi (fun r' (_ : Unit) => r' = r) (fun _ _ => True) noA) 0 0 noA := by
  refine Met.ofW (cc := cX7_thrown) (maxL := 1) (ret := (some .int)) (by decide) rfl ?_
  intro p e s m args below meth c s₁ B hml hv
  obtain ⟨rfl, hP, hK⟩ := hv
  have hx := B.exec
  have hb := B.bytes
  have hr := B.returns
  have hts9 := atoms_spec (ws := wsA yX7_thrown cX7_thrown 1 (some .int)) B.pre
  have hts : ∀ w ∈ ALLW, w.before _ s = true := fun w h => hts9 w (List.mem_cons_of_mem _ h)
  have hown : s.vm.findClass RX7 = some m.cls := findClass_of_methodNamed B.named
  have hlocks := B.notSynchronized
  have hS : va_S noA s.heap s.heap [] := va_S.rf
  have hl := lv_entry [.ref a0] (n := 1) (Nat.le_of_ble_eq_true rfl)
  rw [lg_entry_eq]
  generalize (lg_sl [.ref a0] ++ List.replicate (1 - (lg_sl [.ref a0]).length) Slot.unset).toArray = ls at hl ⊢
  have hl : lv_has ls 1 [(0, .ref a0)] := hl
  rw [f_X7_thrown] at h
  refine lv_aload_n hx hb dX7_thrown_0 rfl (lv_at hl 0 rfl) ?_
  replace h := bd h
  obtain ⟨x1, q2, h⟩ := h
  refine fg_6_5 hx hb hts hown hK hP wd_892 q2 dX7_thrown_1 ?_
  cases h
  exact e_ip hx hb hlocks hr hS (Nat.le_of_ble_eq_true rfl) (Nat.le_of_ble_eq_true rfl) dX7_thrown_4
set_option maxRecDepth 100000 in
theorem c_X7_thrown {p : Program} {l : Launch} {e : Env} {R : Room} {s : State} {m : MethodId} {args : Array Value} {below : List Frame} {meth : Method} {c : Code} {H : Heap} {locs : List Loc} {cells slots : Nat} {Q : State → Prop} {cc : ByteArray} {pc index nL : Nat} {ls : Array Slot} {rest : List Value} {D : va_G} {cy : Nat → ClassId} {A0 : Nat → Prop} {S : St} {H0 : Heap} {own : String} {u : Unit} {a0 : Nat} {r : Int32}  (hF : CallFix p m c cc nL s args ALLW own) (hsz : ls.size = nL) (hK : va_K D vwCl (tyL cy) s) (hP : SP D cy S H) (hS : va_S A0 H0 H locs) (hk : Cond.methodLink own index yX7_thrown ∈ ALLW) (hR : rm_X7_thrown.frames + 1 ≤ R.frames ∧ 8 + (1 + 11) + rm_X7_thrown.locals ≤ R.locals) (h : f_X7_thrown S a0 = some r) (hc : oO S a0 6 = some u) (hW : (rest.map fun v => v.category).sum ≤ 8) (hdg : decode cc pc = .ok (.invokevirtual index, 3)) (hf : cells + 0 ≤ R.cells ∧ slots + 0 ≤ R.slots)
    (kk : ∀ (H1 : Heap) (locs1 : List Loc), SP D cy S H1 → va_S A0 H0 H1 locs1 → W p l e R s m args below meth c H1 locs1 (cells + 0) (slots + 0) Q (F0 m (pc + 3) ls (.int r :: rest))) : W p l e R s m args below meth c H locs cells slots Q (F0 m pc ls (.ref a0 :: rest)) := by
  exact k_iVp (As := []) hF hsz (m_X7_thrown l D cy S a0 r h) (cwV_of (n := 0) hF.2.2.2.2 hk wd_928 wd_929 wd_75 wd_930 rfl rfl (by decide +kernel) hR) rfl hK hP hS (ci := 6) hc rfl hW rfl hdg hf kk
/-- VowBlocksModel.isEnded()Z -/
def f_X7_isEnded (S : St) (a0 : Nat) : Option (Int32) :=
  (gI S a0 6 11).bind fun x1 =>
  (
    if x1 = (-1) then
      some 0
    else
      some 1
  : Option (Int32)).bind fun t3 =>
  (zz t3).bind fun _ =>
  some t3
abbrev rm_X7_isEnded : Room := { frames := 0, cells := 0, slots := 0, locals := 0 }
set_option maxHeartbeats 4000000 in
set_option maxRecDepth 100000 in
theorem m_X7_isEnded (l : Launch) (D : va_G) (cy : Nat → ClassId) (S : St) (a0 : Nat) (r : Int32) (h : f_X7_isEnded S a0 = some r) : Met l yX7_isEnded (wsA yX7_isEnded cX7_isEnded 1 (some .boolean)) rm_X7_isEnded (va_Pc [.ref a0] (PS D cy S)) (va_Qi (fun r' (_ : Unit) => r' = r) (fun _ _ => True) noA) 0 0 noA := by
  refine Met.ofW (cc := cX7_isEnded) (maxL := 1) (ret := (some .boolean)) (by decide) rfl ?_
  intro p e s m args below meth c s₁ B hml hv
  obtain ⟨rfl, hP, hK⟩ := hv
  have hx := B.exec
  have hb := B.bytes
  have hr := B.returns
  have hts9 := atoms_spec (ws := wsA yX7_isEnded cX7_isEnded 1 (some .boolean)) B.pre
  have hts : ∀ w ∈ ALLW, w.before _ s = true := fun w h => hts9 w (List.mem_cons_of_mem _ h)
  have hown : s.vm.findClass RX7 = some m.cls := findClass_of_methodNamed B.named
  have hlocks := B.notSynchronized
  have hS : va_S noA s.heap s.heap [] := va_S.rf
  have hl := lv_entry [.ref a0] (n := 1) (Nat.le_of_ble_eq_true rfl)
  rw [lg_entry_eq]
  generalize (lg_sl [.ref a0] ++ List.replicate (1 - (lg_sl [.ref a0]).length) Slot.unset).toArray = ls at hl ⊢
  have hl : lv_has ls 1 [(0, .ref a0)] := hl
  rw [f_X7_isEnded] at h
  refine lv_aload_n hx hb dX7_isEnded_0 rfl (lv_at hl 0 rfl) ?_
  replace h := bd h
  obtain ⟨x1, q2, h⟩ := h
  refine fg_6_11 hx hb hts hown hK hP wd_898 q2 dX7_isEnded_1 ?_
  refine lv_iconst (v := (-1)) hx hb dX7_isEnded_4 (by decide) ?_
  replace h := bd h
  obtain ⟨t3, ht, h⟩ := h
  have K3 : ∀ (H : Heap) (locs : List Loc) (ls : Array Slot), SP D cy S H → va_S noA s.heap H locs → lv_has ls 1 [] → W p l e rm_X7_isEnded s m ([.ref a0] : List Value).toArray below meth c H locs 0 0 (MQ below (va_Qi (fun r' (_ : Unit) => r' = r) (fun _ _ => True) noA) ([.ref a0] : List Value).toArray s 0 0 noA) (F0 m 13 ls [.int t3]) := by
    intro H locs ls hP hS hl
    replace h := bd h
    obtain ⟨_, q5, h⟩ := h
    cases h
    exact e_zp hx hb hlocks (zz_spec q5) hr hS (Nat.le_of_ble_eq_true rfl) (Nat.le_of_ble_eq_true rfl) dX7_isEnded_13
  replace h := ht
  refine lv_icmp_eq (tgt := 12) hx hb dX7_isEnded_5 (by decide) (fun c4 => ?_) (fun c4 => ?_)
  · replace h := ifp c4 h
    refine lv_iconst (v := 0) hx hb dX7_isEnded_12 (by decide) ?_
    cases h
    exact K3 _ _ _ hP hS (lv_sub hl [] rfl)
  · replace h := ifn c4 h
    refine lv_iconst (v := 1) hx hb dX7_isEnded_8 (by decide) ?_
    refine lv_goto (tgt := 13) hx hb dX7_isEnded_9 (by decide) ?_
    cases h
    exact K3 _ _ _ hP hS (lv_sub hl [] rfl)
set_option maxRecDepth 100000 in
theorem c_X7_isEnded {p : Program} {l : Launch} {e : Env} {R : Room} {s : State} {m : MethodId} {args : Array Value} {below : List Frame} {meth : Method} {c : Code} {H : Heap} {locs : List Loc} {cells slots : Nat} {Q : State → Prop} {cc : ByteArray} {pc index nL : Nat} {ls : Array Slot} {rest : List Value} {D : va_G} {cy : Nat → ClassId} {A0 : Nat → Prop} {S : St} {H0 : Heap} {own : String} {u : Unit} {a0 : Nat} {r : Int32}  (hF : CallFix p m c cc nL s args ALLW own) (hsz : ls.size = nL) (hK : va_K D vwCl (tyL cy) s) (hP : SP D cy S H) (hS : va_S A0 H0 H locs) (hk : Cond.methodLink own index yX7_isEnded ∈ ALLW) (hR : rm_X7_isEnded.frames + 1 ≤ R.frames ∧ 8 + (1 + 11) + rm_X7_isEnded.locals ≤ R.locals) (h : f_X7_isEnded S a0 = some r) (hc : oO S a0 6 = some u) (hW : (rest.map fun v => v.category).sum ≤ 8) (hdg : decode cc pc = .ok (.invokevirtual index, 3)) (hf : cells + 0 ≤ R.cells ∧ slots + 0 ≤ R.slots)
    (kk : ∀ (H1 : Heap) (locs1 : List Loc), SP D cy S H1 → va_S A0 H0 H1 locs1 → W p l e R s m args below meth c H1 locs1 (cells + 0) (slots + 0) Q (F0 m (pc + 3) ls (.int r :: rest))) : W p l e R s m args below meth c H locs cells slots Q (F0 m pc ls (.ref a0 :: rest)) := by
  exact k_iVp (As := []) hF hsz (m_X7_isEnded l D cy S a0 r h) (cwV_of (n := 0) hF.2.2.2.2 hk wd_1026 wd_38 wd_75 wd_1027 rfl rfl (by decide +kernel) hR) rfl hK hP hS (ci := 6) hc rfl hW rfl hdg hf kk
/-- VowBlocksModel.takesDigit(I)Z -/
def f_X7_takesDigit (S : St) (a0 : Nat) (a1 : Int32) : Option (Int32 × St) :=
  (gI S a0 6 11).bind fun x1 =>
  (
    if x1 = (-1) then
      some a1
    else
      (gI S a0 6 11).bind fun x5 =>
      some ((10 * x5) + a1)
  : Option (Int32)).bind fun t3 =>
  (f_X7_within a1 0 9).bind fun x8 =>
  (
    if x8 = 0 then
      some 0
    else
      (gI S a0 6 11).bind fun x11 =>
      if x11 = 0 then
        some 0
      else
        (gI S a0 6 10).bind fun x14 =>
        (
          if x14 = 0 then
            some 0
          else
            some 1
        : Option (Int32)).bind fun t16 =>
        (gI S a0 6 10).bind fun x18 =>
        (
          if x18 = 0 then
            some 255
          else
            some 24
        : Option (Int32)).bind fun t20 =>
        (f_X7_within t3 t16 t20).bind fun x23 =>
        if x23 = 0 then
          some 0
        else
          some 1
  : Option (Int32)).bind fun t9 =>
  (
    if t9 = 0 then
      (gI S a0 6 11).bind fun x27 =>
      some x27
    else
      some t3
  : Option (Int32)).bind fun t25 =>
  (pI S a0 6 11 t25).bind fun Z29 =>
  (gR Z29 a0 6 8).bind fun x31 =>
  (gI Z29 a0 6 9).bind fun x33 =>
  (gI Z29 a0 6 10).bind fun x35 =>
  (
    if x35 = 0 then
      some 0
    else
      some 1
  : Option (Int32)).bind fun t37 =>
  (gI Z29 a0 6 11).bind fun x39 =>
  (sI Z29 x31 ((2 * x33) + t37) x39).bind fun Z41 =>
  (zz t9).bind fun _ =>
  some (t9, Z41)
abbrev rm_X7_takesDigit : Room := { frames := 1, cells := 0, slots := 0, locals := 22 }
set_option maxHeartbeats 4000000 in
set_option maxRecDepth 100000 in
theorem m_X7_takesDigit (l : Launch) (D : va_G) (cy : Nat → ClassId) (sz : Nat) (S : St) (a0 : Nat) (a1 : Int32) (r : Int32) (S1 : St) (h : f_X7_takesDigit S a0 a1 = some (r, S1)) : Met l yX7_takesDigit (wsA yX7_takesDigit cX7_takesDigit 4 (some .boolean)) rm_X7_takesDigit (va_Pc [.ref a0, .int a1] (PN D cy S sz)) (va_Qi (fun r' (_ : Unit) => r' = r) (fun _ t => PoS D cy S1 (dm S sz) t) (dm S sz)) 0 0 (dm S sz) := by
  refine Met.ofW (cc := cX7_takesDigit) (maxL := 4) (ret := (some .boolean)) (by decide) rfl ?_
  intro p e s m args below meth c s₁ B hml hv
  obtain ⟨rfl, hsz, hP, hK⟩ := hv
  have hx := B.exec
  have hb := B.bytes
  have hr := B.returns
  have hts9 := atoms_spec (ws := wsA yX7_takesDigit cX7_takesDigit 4 (some .boolean)) B.pre
  have hts : ∀ w ∈ ALLW, w.before _ s = true := fun w h => hts9 w (List.mem_cons_of_mem _ h)
  have hown : s.vm.findClass RX7 = some m.cls := findClass_of_methodNamed B.named
  have hlocks := B.notSynchronized
  subst hsz
  have hD : ∀ a, S a ≠ none → dm S s.heap.size a := fun a h => Or.inl h
  have hA : ∀ q : Nat, s.heap.size ≤ q → dm S s.heap.size q := fun q h => Or.inr h
  have hS : va_S (dm S s.heap.size) s.heap s.heap [] := va_S.rf
  have hl := lv_entry [.ref a0, .int a1] (n := 4) (Nat.le_of_ble_eq_true rfl)
  rw [lg_entry_eq]
  generalize (lg_sl [.ref a0, .int a1] ++ List.replicate (4 - (lg_sl [.ref a0, .int a1]).length) Slot.unset).toArray = ls at hl ⊢
  have hl : lv_has ls 4 [(0, .ref a0), (1, .int a1)] := hl
  rw [f_X7_takesDigit] at h
  refine lv_aload_n hx hb dX7_takesDigit_0 rfl (lv_at hl 0 rfl) ?_
  replace h := bd h
  obtain ⟨x1, q2, h⟩ := h
  refine fg_6_11 hx hb hts hown hK hP wd_898 q2 dX7_takesDigit_1 ?_
  refine lv_iconst (v := (-1)) hx hb dX7_takesDigit_4 (by decide) ?_
  replace h := bd h
  obtain ⟨t3, ht, h⟩ := h
  have K3 : ∀ (H : Heap) (locs : List Loc) (ls : Array Slot), SP D cy S H → (∀ a, S a ≠ none → (dm S s.heap.size) a) → va_S (dm S s.heap.size) s.heap H locs → lv_has ls 4 [(0, .ref a0), (1, .int a1)] → W p l e rm_X7_takesDigit s m ([.ref a0, .int a1] : List Value).toArray below meth c H locs 0 0 (MQ below (va_Qi (fun r' (_ : Unit) => r' = r) (fun _ t => PoS D cy S1 (dm S s.heap.size) t) (dm S s.heap.size)) ([.ref a0, .int a1] : List Value).toArray s 0 0 (dm S s.heap.size)) (F0 m 21 ls [.int t3]) := by
    intro H locs ls hP hD hS hl
    refine lv_istore_n (lv' := [(2, .int t3), (0, .ref a0), (1, .int a1)]) hx hb dX7_takesDigit_21 rfl hl (by decide) rfl (fun ls hl => ?_)
    refine lv_iload_n hx hb dX7_takesDigit_22 rfl (lv_at hl 2 rfl) ?_
    refine lv_iconst (v := 0) hx hb dX7_takesDigit_23 (by decide) ?_
    refine lv_bipush (v := 9) hx hb dX7_takesDigit_24 (by decide) ?_
    replace h := bd h
    obtain ⟨x8, q7, h⟩ := h
    refine c_X7_within ⟨hx, hb, hml, hown, hts⟩ hl.1 hK hP hS wd_938 ⟨(Nat.le_of_ble_eq_true rfl), (Nat.le_of_ble_eq_true rfl)⟩ q7 (Nat.le_of_ble_eq_true rfl) dX7_takesDigit_26 ⟨(Nat.le_of_ble_eq_true rfl), (Nat.le_of_ble_eq_true rfl)⟩ (fun H locs hP hS => ?_)
    replace h := bd h
    obtain ⟨t9, ht, h⟩ := h
    have K9 : ∀ (H : Heap) (locs : List Loc) (ls : Array Slot), SP D cy S H → (∀ a, S a ≠ none → (dm S s.heap.size) a) → va_S (dm S s.heap.size) s.heap H locs → lv_has ls 4 [(0, .ref a0), (2, .int t3)] → W p l e rm_X7_takesDigit s m ([.ref a0, .int a1] : List Value).toArray below meth c H locs 0 0 (MQ below (va_Qi (fun r' (_ : Unit) => r' = r) (fun _ t => PoS D cy S1 (dm S s.heap.size) t) (dm S s.heap.size)) ([.ref a0, .int a1] : List Value).toArray s 0 0 (dm S s.heap.size)) (F0 m 78 ls [.int t9]) := by
      intro H locs ls hP hD hS hl
      refine lv_istore_n (lv' := [(3, .int t9), (0, .ref a0), (2, .int t3)]) hx hb dX7_takesDigit_78 rfl hl (by decide) rfl (fun ls hl => ?_)
      refine lv_aload_n hx hb dX7_takesDigit_79 rfl (lv_at hl 1 rfl) ?_
      refine lv_iload_n hx hb dX7_takesDigit_80 rfl (lv_at hl 0 rfl) ?_
      replace h := bd h
      obtain ⟨t25, ht, h⟩ := h
      have K25 : ∀ (H : Heap) (locs : List Loc) (ls : Array Slot), SP D cy S H → (∀ a, S a ≠ none → (dm S s.heap.size) a) → va_S (dm S s.heap.size) s.heap H locs → lv_has ls 4 [(0, .ref a0), (3, .int t9)] → W p l e rm_X7_takesDigit s m ([.ref a0, .int a1] : List Value).toArray below meth c H locs 0 0 (MQ below (va_Qi (fun r' (_ : Unit) => r' = r) (fun _ t => PoS D cy S1 (dm S s.heap.size) t) (dm S s.heap.size)) ([.ref a0, .int a1] : List Value).toArray s 0 0 (dm S s.heap.size)) (F0 m 92 ls [.int t25, .ref a0]) := by
        intro H locs ls hP hD hS hl
        replace h := bd h
        obtain ⟨Z29, q30, h⟩ := h
        refine fp_6_11 hx hb hts hown hK hP hD hS wd_898 q30 dX7_takesDigit_92 (fun H locs hz9 hP hD hS => ?_)
        refine lv_aload_n hx hb dX7_takesDigit_95 rfl (lv_at hl 0 rfl) ?_
        replace h := bd h
        obtain ⟨x31, q32, h⟩ := h
        refine fg_6_8 hx hb hts hown hK hP wd_895 q32 dX7_takesDigit_96 ?_
        refine lv_iconst (v := 2) hx hb dX7_takesDigit_99 (by decide) ?_
        refine lv_aload_n hx hb dX7_takesDigit_100 rfl (lv_at hl 0 rfl) ?_
        replace h := bd h
        obtain ⟨x33, q34, h⟩ := h
        refine fg_6_9 hx hb hts hown hK hP wd_896 q34 dX7_takesDigit_101 ?_
        refine lv_imul hx hb dX7_takesDigit_104 ?_
        refine lv_aload_n hx hb dX7_takesDigit_105 rfl (lv_at hl 0 rfl) ?_
        replace h := bd h
        obtain ⟨x35, q36, h⟩ := h
        refine fg_6_10 hx hb hts hown hK hP wd_897 q36 dX7_takesDigit_106 ?_
        replace h := bd h
        obtain ⟨t37, ht, h⟩ := h
        have K37 : ∀ (H : Heap) (locs : List Loc) (ls : Array Slot), SP D cy Z29 H → (∀ a, Z29 a ≠ none → (dm S s.heap.size) a) → va_S (dm S s.heap.size) s.heap H locs → lv_has ls 4 [(0, .ref a0), (3, .int t9)] → W p l e rm_X7_takesDigit s m ([.ref a0, .int a1] : List Value).toArray below meth c H locs 0 0 (MQ below (va_Qi (fun r' (_ : Unit) => r' = r) (fun _ t => PoS D cy S1 (dm S s.heap.size) t) (dm S s.heap.size)) ([.ref a0, .int a1] : List Value).toArray s 0 0 (dm S s.heap.size)) (F0 m 117 ls [.int t37, .int (2 * x33), .ref x31]) := by
          intro H locs ls hP hD hS hl
          refine lv_iadd hx hb dX7_takesDigit_117 ?_
          refine lv_aload_n hx hb dX7_takesDigit_118 rfl (lv_at hl 0 rfl) ?_
          replace h := bd h
          obtain ⟨x39, q40, h⟩ := h
          refine fg_6_11 hx hb hts hown hK hP wd_898 q40 dX7_takesDigit_119 ?_
          replace h := bd h
          obtain ⟨Z41, q42, h⟩ := h
          refine r_sI hx hb hK hP hD hS q42 dX7_takesDigit_122 (fun H locs hz9 hP hD hS => ?_)
          refine lv_iload_n hx hb dX7_takesDigit_123 rfl (lv_at hl 1 rfl) ?_
          replace h := bd h
          obtain ⟨_, q43, h⟩ := h
          cases h
          exact e_zm hx hb hlocks (zz_spec q43) hr hP hD hS (Nat.le_of_ble_eq_true rfl) (Nat.le_of_ble_eq_true rfl) dX7_takesDigit_124
        replace h := ht
        refine lv_if_eq (tgt := 116) hx hb dX7_takesDigit_109 (by decide) (fun c38 => ?_) (fun c38 => ?_)
        · replace h := ifp c38 h
          refine lv_iconst (v := 0) hx hb dX7_takesDigit_116 (by decide) ?_
          cases h
          exact K37 _ _ _ hP hD hS (lv_sub hl [0, 1] rfl)
        · replace h := ifn c38 h
          refine lv_iconst (v := 1) hx hb dX7_takesDigit_112 (by decide) ?_
          refine lv_goto (tgt := 117) hx hb dX7_takesDigit_113 (by decide) ?_
          cases h
          exact K37 _ _ _ hP hD hS (lv_sub hl [0, 1] rfl)
      replace h := ht
      refine lv_if_eq (tgt := 88) hx hb dX7_takesDigit_81 (by decide) (fun c26 => ?_) (fun c26 => ?_)
      · replace h := ifp c26 h
        refine lv_aload_n hx hb dX7_takesDigit_88 rfl (lv_at hl 1 rfl) ?_
        replace h := bd h
        obtain ⟨x27, q28, h⟩ := h
        refine fg_6_11 hx hb hts hown hK hP wd_898 q28 dX7_takesDigit_89 ?_
        cases h
        exact K25 _ _ _ hP hD hS (lv_sub hl [1, 0] rfl)
      · replace h := ifn c26 h
        refine lv_iload_n hx hb dX7_takesDigit_84 rfl (lv_at hl 2 rfl) ?_
        refine lv_goto (tgt := 92) hx hb dX7_takesDigit_85 (by decide) ?_
        cases h
        exact K25 _ _ _ hP hD hS (lv_sub hl [1, 0] rfl)
    replace h := ht
    refine lv_if_eq (tgt := 77) hx hb dX7_takesDigit_29 (by decide) (fun c10 => ?_) (fun c10 => ?_)
    · replace h := ifp c10 h
      refine lv_iconst (v := 0) hx hb dX7_takesDigit_77 (by decide) ?_
      cases h
      exact K9 _ _ _ hP hD hS (lv_sub hl [1, 0] rfl)
    · replace h := ifn c10 h
      refine lv_aload_n hx hb dX7_takesDigit_32 rfl (lv_at hl 1 rfl) ?_
      replace h := bd h
      obtain ⟨x11, q12, h⟩ := h
      refine fg_6_11 hx hb hts hown hK hP wd_898 q12 dX7_takesDigit_33 ?_
      refine lv_if_eq (tgt := 77) hx hb dX7_takesDigit_36 (by decide) (fun c13 => ?_) (fun c13 => ?_)
      · replace h := ifp c13 h
        refine lv_iconst (v := 0) hx hb dX7_takesDigit_77 (by decide) ?_
        cases h
        exact K9 _ _ _ hP hD hS (lv_sub hl [1, 0] rfl)
      · replace h := ifn c13 h
        refine lv_iload_n hx hb dX7_takesDigit_39 rfl (lv_at hl 0 rfl) ?_
        refine lv_aload_n hx hb dX7_takesDigit_40 rfl (lv_at hl 1 rfl) ?_
        replace h := bd h
        obtain ⟨x14, q15, h⟩ := h
        refine fg_6_10 hx hb hts hown hK hP wd_897 q15 dX7_takesDigit_41 ?_
        replace h := bd h
        obtain ⟨t16, ht, h⟩ := h
        have K16 : ∀ (H : Heap) (locs : List Loc) (ls : Array Slot), SP D cy S H → (∀ a, S a ≠ none → (dm S s.heap.size) a) → va_S (dm S s.heap.size) s.heap H locs → lv_has ls 4 [(0, .ref a0), (2, .int t3)] → W p l e rm_X7_takesDigit s m ([.ref a0, .int a1] : List Value).toArray below meth c H locs 0 0 (MQ below (va_Qi (fun r' (_ : Unit) => r' = r) (fun _ t => PoS D cy S1 (dm S s.heap.size) t) (dm S s.heap.size)) ([.ref a0, .int a1] : List Value).toArray s 0 0 (dm S s.heap.size)) (F0 m 52 ls [.int t16, .int t3]) := by
          intro H locs ls hP hD hS hl
          refine lv_aload_n hx hb dX7_takesDigit_52 rfl (lv_at hl 0 rfl) ?_
          replace h := bd h
          obtain ⟨x18, q19, h⟩ := h
          refine fg_6_10 hx hb hts hown hK hP wd_897 q19 dX7_takesDigit_53 ?_
          replace h := bd h
          obtain ⟨t20, ht, h⟩ := h
          have K20 : ∀ (H : Heap) (locs : List Loc) (ls : Array Slot), SP D cy S H → (∀ a, S a ≠ none → (dm S s.heap.size) a) → va_S (dm S s.heap.size) s.heap H locs → lv_has ls 4 [(0, .ref a0), (2, .int t3)] → W p l e rm_X7_takesDigit s m ([.ref a0, .int a1] : List Value).toArray below meth c H locs 0 0 (MQ below (va_Qi (fun r' (_ : Unit) => r' = r) (fun _ t => PoS D cy S1 (dm S s.heap.size) t) (dm S s.heap.size)) ([.ref a0, .int a1] : List Value).toArray s 0 0 (dm S s.heap.size)) (F0 m 67 ls [.int t20, .int t16, .int t3]) := by
            intro H locs ls hP hD hS hl
            replace h := bd h
            obtain ⟨x23, q22, h⟩ := h
            refine c_X7_within ⟨hx, hb, hml, hown, hts⟩ hl.1 hK hP hS wd_938 ⟨(Nat.le_of_ble_eq_true rfl), (Nat.le_of_ble_eq_true rfl)⟩ q22 (Nat.le_of_ble_eq_true rfl) dX7_takesDigit_67 ⟨(Nat.le_of_ble_eq_true rfl), (Nat.le_of_ble_eq_true rfl)⟩ (fun H locs hP hS => ?_)
            refine lv_if_eq (tgt := 77) hx hb dX7_takesDigit_70 (by decide) (fun c24 => ?_) (fun c24 => ?_)
            · replace h := ifp c24 h
              refine lv_iconst (v := 0) hx hb dX7_takesDigit_77 (by decide) ?_
              cases h
              exact K9 _ _ _ hP hD hS (lv_sub hl [0, 1] rfl)
            · replace h := ifn c24 h
              refine lv_iconst (v := 1) hx hb dX7_takesDigit_73 (by decide) ?_
              refine lv_goto (tgt := 78) hx hb dX7_takesDigit_74 (by decide) ?_
              cases h
              exact K9 _ _ _ hP hD hS (lv_sub hl [0, 1] rfl)
          replace h := ht
          refine lv_if_eq (tgt := 64) hx hb dX7_takesDigit_56 (by decide) (fun c21 => ?_) (fun c21 => ?_)
          · replace h := ifp c21 h
            refine lv_sipush (v := 255) hx hb dX7_takesDigit_64 (by decide) ?_
            cases h
            exact K20 _ _ _ hP hD hS (lv_sub hl [0, 1] rfl)
          · replace h := ifn c21 h
            refine lv_bipush (v := 24) hx hb dX7_takesDigit_59 (by decide) ?_
            refine lv_goto (tgt := 67) hx hb dX7_takesDigit_61 (by decide) ?_
            cases h
            exact K20 _ _ _ hP hD hS (lv_sub hl [0, 1] rfl)
        replace h := ht
        refine lv_if_eq (tgt := 51) hx hb dX7_takesDigit_44 (by decide) (fun c17 => ?_) (fun c17 => ?_)
        · replace h := ifp c17 h
          refine lv_iconst (v := 0) hx hb dX7_takesDigit_51 (by decide) ?_
          cases h
          exact K16 _ _ _ hP hD hS (lv_sub hl [1, 0] rfl)
        · replace h := ifn c17 h
          refine lv_iconst (v := 1) hx hb dX7_takesDigit_47 (by decide) ?_
          refine lv_goto (tgt := 52) hx hb dX7_takesDigit_48 (by decide) ?_
          cases h
          exact K16 _ _ _ hP hD hS (lv_sub hl [1, 0] rfl)
  replace h := ht
  refine lv_icmp_ne (tgt := 12) hx hb dX7_takesDigit_5 (by decide) (fun c4 => ?_) (fun c4 => ?_)
  · replace h := ifn c4 h
    refine lv_bipush (v := 10) hx hb dX7_takesDigit_12 (by decide) ?_
    refine lv_aload_n hx hb dX7_takesDigit_14 rfl (lv_at hl 0 rfl) ?_
    replace h := bd h
    obtain ⟨x5, q6, h⟩ := h
    refine fg_6_11 hx hb hts hown hK hP wd_898 q6 dX7_takesDigit_15 ?_
    refine lv_imul hx hb dX7_takesDigit_18 ?_
    refine lv_iload_n hx hb dX7_takesDigit_19 rfl (lv_at hl 1 rfl) ?_
    refine lv_iadd hx hb dX7_takesDigit_20 ?_
    cases h
    exact K3 _ _ _ hP hD hS (lv_sub hl [0, 1] rfl)
  · replace h := ifp c4 h
    refine lv_iload_n hx hb dX7_takesDigit_8 rfl (lv_at hl 1 rfl) ?_
    refine lv_goto (tgt := 21) hx hb dX7_takesDigit_9 (by decide) ?_
    cases h
    exact K3 _ _ _ hP hD hS (lv_sub hl [0, 1] rfl)
set_option maxRecDepth 100000 in
theorem c_X7_takesDigit {p : Program} {l : Launch} {e : Env} {R : Room} {s : State} {m : MethodId} {args : Array Value} {below : List Frame} {meth : Method} {c : Code} {H : Heap} {locs : List Loc} {cells slots : Nat} {Q : State → Prop} {cc : ByteArray} {pc index nL : Nat} {ls : Array Slot} {rest : List Value} {D : va_G} {cy : Nat → ClassId} {A0 : Nat → Prop} {S : St} {H0 : Heap} {own : String} {u : Unit} {a0 : Nat} {a1 : Int32} {r : Int32} {S1 : St}  (hF : CallFix p m c cc nL s args ALLW own) (hsz : ls.size = nL) (hK : va_K D vwCl (tyL cy) s) (hP : SP D cy S H) (hD : ∀ a, S a ≠ none → A0 a) (hA : ∀ q, H0.size ≤ q → A0 q) (hS : va_S A0 H0 H locs) (hk : Cond.methodLink own index yX7_takesDigit ∈ ALLW) (hR : rm_X7_takesDigit.frames + 1 ≤ R.frames ∧ 8 + (4 + 11) + rm_X7_takesDigit.locals ≤ R.locals) (h : f_X7_takesDigit S a0 a1 = some (r, S1)) (hc : oO S a0 6 = some u) (hW : (rest.map fun v => v.category).sum ≤ 8) (hdg : decode cc pc = .ok (.invokevirtual index, 3)) (hf : cells + 0 ≤ R.cells ∧ slots + 0 ≤ R.slots)
    (kk : ∀ (H1 : Heap) (locs1 : List Loc), SP D cy S1 H1 → (∀ a, S1 a ≠ none → A0 a) → va_S A0 H0 H1 locs1 → W p l e R s m args below meth c H1 locs1 (cells + 0) (slots + 0) Q (F0 m (pc + 3) ls (.int r :: rest))) : W p l e R s m args below meth c H locs cells slots Q (F0 m pc ls (.int a1 :: .ref a0 :: rest)) := by
  exact k_iVm (As := [.int a1]) hF hsz (m_X7_takesDigit l D cy H.size S a0 a1 r S1 h) (cwV_of (n := 1) hF.2.2.2.2 hk wd_1030 wd_39 wd_75 wd_1031 rfl rfl (by decide +kernel) hR) rfl hK hP hD hA hS (ci := 6) hc rfl hW rfl hdg hf kk
/-- VowBlocksModel.takes(I)Z -/
def f_X7_takes (S : St) (a0 : Nat) (a1 : Int32) : Option (Int32 × St) :=
  if a1 = 44 then
    (oO S a0 6).bind fun _ =>
    (f_X7_isEnded S a0).bind fun x28 =>
    if x28 = 0 then
      if a1 = 42 then
        (oO S a0 6).bind fun _ =>
        (f_X7_isEnded S a0).bind fun x37 =>
        if x37 = 0 then
          (oO S a0 6).bind fun _ =>
          (f_X7_takesDigit S a0 (a1 - 48)).bind fun z41 =>
          (zz z41.1).bind fun _ =>
          some (z41.1, z41.2)
        else
          (gI S a0 6 10).bind fun x43 =>
          if x43 = 0 then
            (pZ S a0 6 10 1).bind fun Z50 =>
            (pI Z50 a0 6 11 (-1)).bind fun Z52 =>
            some (1, Z52)
          else
            (oO S a0 6).bind fun _ =>
            (f_X7_takesDigit S a0 (a1 - 48)).bind fun z48 =>
            (zz z48.1).bind fun _ =>
            some (z48.1, z48.2)
      else
        (oO S a0 6).bind fun _ =>
        (f_X7_takesDigit S a0 (a1 - 48)).bind fun z33 =>
        (zz z33.1).bind fun _ =>
        some (z33.1, z33.2)
    else
      (gI S a0 6 9).bind fun x54 =>
      (pI S a0 6 9 (x54 + 1)).bind fun Z56 =>
      (gR Z56 a0 6 8).bind fun x58 =>
      (gI Z56 a0 6 9).bind fun x60 =>
      (sI Z56 x58 ((2 * x60) + 1) 1).bind fun Z62 =>
      (pZ Z62 a0 6 10 0).bind fun Z64 =>
      (pI Z64 a0 6 11 (-1)).bind fun Z66 =>
      some (1, Z66)
  else
    if a1 = 42 then
      (oO S a0 6).bind fun _ =>
      (f_X7_isEnded S a0).bind fun x9 =>
      if x9 = 0 then
        (oO S a0 6).bind fun _ =>
        (f_X7_takesDigit S a0 (a1 - 48)).bind fun z13 =>
        (zz z13.1).bind fun _ =>
        some (z13.1, z13.2)
      else
        (gI S a0 6 10).bind fun x15 =>
        if x15 = 0 then
          (pZ S a0 6 10 1).bind fun Z22 =>
          (pI Z22 a0 6 11 (-1)).bind fun Z24 =>
          some (1, Z24)
        else
          (oO S a0 6).bind fun _ =>
          (f_X7_takesDigit S a0 (a1 - 48)).bind fun z20 =>
          (zz z20.1).bind fun _ =>
          some (z20.1, z20.2)
    else
      (oO S a0 6).bind fun _ =>
      (f_X7_takesDigit S a0 (a1 - 48)).bind fun z5 =>
      (zz z5.1).bind fun _ =>
      some (z5.1, z5.2)
abbrev rm_X7_takes : Room := { frames := 2, cells := 0, slots := 0, locals := 45 }
set_option maxHeartbeats 4000000 in
set_option maxRecDepth 100000 in
theorem m_X7_takes (l : Launch) (D : va_G) (cy : Nat → ClassId) (sz : Nat) (S : St) (a0 : Nat) (a1 : Int32) (r : Int32) (S1 : St) (h : f_X7_takes S a0 a1 = some (r, S1)) : Met l yX7_takes (wsA yX7_takes cX7_takes 2 (some .boolean)) rm_X7_takes (va_Pc [.ref a0, .int a1] (PN D cy S sz)) (va_Qi (fun r' (_ : Unit) => r' = r) (fun _ t => PoS D cy S1 (dm S sz) t) (dm S sz)) 0 0 (dm S sz) := by
  refine Met.ofW (cc := cX7_takes) (maxL := 2) (ret := (some .boolean)) (by decide) rfl ?_
  intro p e s m args below meth c s₁ B hml hv
  obtain ⟨rfl, hsz, hP, hK⟩ := hv
  have hx := B.exec
  have hb := B.bytes
  have hr := B.returns
  have hts9 := atoms_spec (ws := wsA yX7_takes cX7_takes 2 (some .boolean)) B.pre
  have hts : ∀ w ∈ ALLW, w.before _ s = true := fun w h => hts9 w (List.mem_cons_of_mem _ h)
  have hown : s.vm.findClass RX7 = some m.cls := findClass_of_methodNamed B.named
  have hlocks := B.notSynchronized
  subst hsz
  have hD : ∀ a, S a ≠ none → dm S s.heap.size a := fun a h => Or.inl h
  have hA : ∀ q : Nat, s.heap.size ≤ q → dm S s.heap.size q := fun q h => Or.inr h
  have hS : va_S (dm S s.heap.size) s.heap s.heap [] := va_S.rf
  have hl := lv_entry [.ref a0, .int a1] (n := 2) (Nat.le_of_ble_eq_true rfl)
  rw [lg_entry_eq]
  generalize (lg_sl [.ref a0, .int a1] ++ List.replicate (2 - (lg_sl [.ref a0, .int a1]).length) Slot.unset).toArray = ls at hl ⊢
  have hl : lv_has ls 2 [(0, .ref a0), (1, .int a1)] := hl
  rw [f_X7_takes] at h
  refine lv_iload_n hx hb dX7_takes_0 rfl (lv_at hl 1 rfl) ?_
  refine lv_bipush (v := 44) hx hb dX7_takes_1 (by decide) ?_
  refine lv_icmp_ne (tgt := 49) hx hb dX7_takes_3 (by decide) (fun c1 => ?_) (fun c1 => ?_)
  · replace h := ifn c1 h
    refine lv_iload_n hx hb dX7_takes_49 rfl (lv_at hl 1 rfl) ?_
    refine lv_bipush (v := 42) hx hb dX7_takes_50 (by decide) ?_
    refine lv_icmp_ne (tgt := 81) hx hb dX7_takes_52 (by decide) (fun c2 => ?_) (fun c2 => ?_)
    · replace h := ifn c2 h
      refine lv_aload_n hx hb dX7_takes_81 rfl (lv_at hl 0 rfl) ?_
      refine lv_iload_n hx hb dX7_takes_82 rfl (lv_at hl 1 rfl) ?_
      refine lv_bipush (v := 48) hx hb dX7_takes_83 (by decide) ?_
      refine lv_isub hx hb dX7_takes_85 ?_
      replace h := bd h
      obtain ⟨_, q3, h⟩ := h
      replace h := bd h
      obtain ⟨z5, q4, h⟩ := h
      refine c_X7_takesDigit ⟨hx, hb, hml, hown, hts⟩ hl.1 hK hP hD hA hS wd_1028 ⟨(Nat.le_of_ble_eq_true rfl), (Nat.le_of_ble_eq_true rfl)⟩ q4 q3 (Nat.le_of_ble_eq_true rfl) dX7_takes_86 ⟨(Nat.le_of_ble_eq_true rfl), (Nat.le_of_ble_eq_true rfl)⟩ (fun H locs hP hD hS => ?_)
      replace h := bd h
      obtain ⟨_, q6, h⟩ := h
      cases h
      exact e_zm hx hb hlocks (zz_spec q6) hr hP hD hS (Nat.le_of_ble_eq_true rfl) (Nat.le_of_ble_eq_true rfl) dX7_takes_89
    · replace h := ifp c2 h
      refine lv_aload_n hx hb dX7_takes_55 rfl (lv_at hl 0 rfl) ?_
      replace h := bd h
      obtain ⟨_, q7, h⟩ := h
      replace h := bd h
      obtain ⟨x9, q8, h⟩ := h
      refine c_X7_isEnded ⟨hx, hb, hml, hown, hts⟩ hl.1 hK hP hS wd_1024 ⟨(Nat.le_of_ble_eq_true rfl), (Nat.le_of_ble_eq_true rfl)⟩ q8 q7 (Nat.le_of_ble_eq_true rfl) dX7_takes_56 ⟨(Nat.le_of_ble_eq_true rfl), (Nat.le_of_ble_eq_true rfl)⟩ (fun H locs hP hS => ?_)
      refine lv_if_eq (tgt := 81) hx hb dX7_takes_59 (by decide) (fun c10 => ?_) (fun c10 => ?_)
      · replace h := ifp c10 h
        refine lv_aload_n hx hb dX7_takes_81 rfl (lv_at hl 0 rfl) ?_
        refine lv_iload_n hx hb dX7_takes_82 rfl (lv_at hl 1 rfl) ?_
        refine lv_bipush (v := 48) hx hb dX7_takes_83 (by decide) ?_
        refine lv_isub hx hb dX7_takes_85 ?_
        replace h := bd h
        obtain ⟨_, q11, h⟩ := h
        replace h := bd h
        obtain ⟨z13, q12, h⟩ := h
        refine c_X7_takesDigit ⟨hx, hb, hml, hown, hts⟩ hl.1 hK hP hD hA hS wd_1028 ⟨(Nat.le_of_ble_eq_true rfl), (Nat.le_of_ble_eq_true rfl)⟩ q12 q11 (Nat.le_of_ble_eq_true rfl) dX7_takes_86 ⟨(Nat.le_of_ble_eq_true rfl), (Nat.le_of_ble_eq_true rfl)⟩ (fun H locs hP hD hS => ?_)
        replace h := bd h
        obtain ⟨_, q14, h⟩ := h
        cases h
        exact e_zm hx hb hlocks (zz_spec q14) hr hP hD hS (Nat.le_of_ble_eq_true rfl) (Nat.le_of_ble_eq_true rfl) dX7_takes_89
      · replace h := ifn c10 h
        refine lv_aload_n hx hb dX7_takes_62 rfl (lv_at hl 0 rfl) ?_
        replace h := bd h
        obtain ⟨x15, q16, h⟩ := h
        refine fg_6_10 hx hb hts hown hK hP wd_897 q16 dX7_takes_63 ?_
        refine lv_if_ne (tgt := 81) hx hb dX7_takes_66 (by decide) (fun c17 => ?_) (fun c17 => ?_)
        · replace h := ifn c17 h
          refine lv_aload_n hx hb dX7_takes_81 rfl (lv_at hl 0 rfl) ?_
          refine lv_iload_n hx hb dX7_takes_82 rfl (lv_at hl 1 rfl) ?_
          refine lv_bipush (v := 48) hx hb dX7_takes_83 (by decide) ?_
          refine lv_isub hx hb dX7_takes_85 ?_
          replace h := bd h
          obtain ⟨_, q18, h⟩ := h
          replace h := bd h
          obtain ⟨z20, q19, h⟩ := h
          refine c_X7_takesDigit ⟨hx, hb, hml, hown, hts⟩ hl.1 hK hP hD hA hS wd_1028 ⟨(Nat.le_of_ble_eq_true rfl), (Nat.le_of_ble_eq_true rfl)⟩ q19 q18 (Nat.le_of_ble_eq_true rfl) dX7_takes_86 ⟨(Nat.le_of_ble_eq_true rfl), (Nat.le_of_ble_eq_true rfl)⟩ (fun H locs hP hD hS => ?_)
          replace h := bd h
          obtain ⟨_, q21, h⟩ := h
          cases h
          exact e_zm hx hb hlocks (zz_spec q21) hr hP hD hS (Nat.le_of_ble_eq_true rfl) (Nat.le_of_ble_eq_true rfl) dX7_takes_89
        · replace h := ifp c17 h
          refine lv_aload_n hx hb dX7_takes_69 rfl (lv_at hl 0 rfl) ?_
          refine lv_iconst (v := 1) hx hb dX7_takes_70 (by decide) ?_
          replace h := bd h
          obtain ⟨Z22, q23, h⟩ := h
          refine fp_6_10 hx hb hts hown hK hP hD hS wd_897 q23 dX7_takes_71 (fun H locs hz9 hP hD hS => ?_)
          refine lv_aload_n hx hb dX7_takes_74 rfl (lv_at hl 0 rfl) ?_
          refine lv_iconst (v := (-1)) hx hb dX7_takes_75 (by decide) ?_
          replace h := bd h
          obtain ⟨Z24, q25, h⟩ := h
          refine fp_6_11 hx hb hts hown hK hP hD hS wd_898 q25 dX7_takes_76 (fun H locs hz9 hP hD hS => ?_)
          refine lv_iconst (v := 1) hx hb dX7_takes_79 (by decide) ?_
          cases h
          exact e_zm hx hb hlocks (by decide) hr hP hD hS (Nat.le_of_ble_eq_true rfl) (Nat.le_of_ble_eq_true rfl) dX7_takes_80
  · replace h := ifp c1 h
    refine lv_aload_n hx hb dX7_takes_6 rfl (lv_at hl 0 rfl) ?_
    replace h := bd h
    obtain ⟨_, q26, h⟩ := h
    replace h := bd h
    obtain ⟨x28, q27, h⟩ := h
    refine c_X7_isEnded ⟨hx, hb, hml, hown, hts⟩ hl.1 hK hP hS wd_1024 ⟨(Nat.le_of_ble_eq_true rfl), (Nat.le_of_ble_eq_true rfl)⟩ q27 q26 (Nat.le_of_ble_eq_true rfl) dX7_takes_7 ⟨(Nat.le_of_ble_eq_true rfl), (Nat.le_of_ble_eq_true rfl)⟩ (fun H locs hP hS => ?_)
    refine lv_if_eq (tgt := 49) hx hb dX7_takes_10 (by decide) (fun c29 => ?_) (fun c29 => ?_)
    · replace h := ifp c29 h
      refine lv_iload_n hx hb dX7_takes_49 rfl (lv_at hl 1 rfl) ?_
      refine lv_bipush (v := 42) hx hb dX7_takes_50 (by decide) ?_
      refine lv_icmp_ne (tgt := 81) hx hb dX7_takes_52 (by decide) (fun c30 => ?_) (fun c30 => ?_)
      · replace h := ifn c30 h
        refine lv_aload_n hx hb dX7_takes_81 rfl (lv_at hl 0 rfl) ?_
        refine lv_iload_n hx hb dX7_takes_82 rfl (lv_at hl 1 rfl) ?_
        refine lv_bipush (v := 48) hx hb dX7_takes_83 (by decide) ?_
        refine lv_isub hx hb dX7_takes_85 ?_
        replace h := bd h
        obtain ⟨_, q31, h⟩ := h
        replace h := bd h
        obtain ⟨z33, q32, h⟩ := h
        refine c_X7_takesDigit ⟨hx, hb, hml, hown, hts⟩ hl.1 hK hP hD hA hS wd_1028 ⟨(Nat.le_of_ble_eq_true rfl), (Nat.le_of_ble_eq_true rfl)⟩ q32 q31 (Nat.le_of_ble_eq_true rfl) dX7_takes_86 ⟨(Nat.le_of_ble_eq_true rfl), (Nat.le_of_ble_eq_true rfl)⟩ (fun H locs hP hD hS => ?_)
        replace h := bd h
        obtain ⟨_, q34, h⟩ := h
        cases h
        exact e_zm hx hb hlocks (zz_spec q34) hr hP hD hS (Nat.le_of_ble_eq_true rfl) (Nat.le_of_ble_eq_true rfl) dX7_takes_89
      · replace h := ifp c30 h
        refine lv_aload_n hx hb dX7_takes_55 rfl (lv_at hl 0 rfl) ?_
        replace h := bd h
        obtain ⟨_, q35, h⟩ := h
        replace h := bd h
        obtain ⟨x37, q36, h⟩ := h
        refine c_X7_isEnded ⟨hx, hb, hml, hown, hts⟩ hl.1 hK hP hS wd_1024 ⟨(Nat.le_of_ble_eq_true rfl), (Nat.le_of_ble_eq_true rfl)⟩ q36 q35 (Nat.le_of_ble_eq_true rfl) dX7_takes_56 ⟨(Nat.le_of_ble_eq_true rfl), (Nat.le_of_ble_eq_true rfl)⟩ (fun H locs hP hS => ?_)
        refine lv_if_eq (tgt := 81) hx hb dX7_takes_59 (by decide) (fun c38 => ?_) (fun c38 => ?_)
        · replace h := ifp c38 h
          refine lv_aload_n hx hb dX7_takes_81 rfl (lv_at hl 0 rfl) ?_
          refine lv_iload_n hx hb dX7_takes_82 rfl (lv_at hl 1 rfl) ?_
          refine lv_bipush (v := 48) hx hb dX7_takes_83 (by decide) ?_
          refine lv_isub hx hb dX7_takes_85 ?_
          replace h := bd h
          obtain ⟨_, q39, h⟩ := h
          replace h := bd h
          obtain ⟨z41, q40, h⟩ := h
          refine c_X7_takesDigit ⟨hx, hb, hml, hown, hts⟩ hl.1 hK hP hD hA hS wd_1028 ⟨(Nat.le_of_ble_eq_true rfl), (Nat.le_of_ble_eq_true rfl)⟩ q40 q39 (Nat.le_of_ble_eq_true rfl) dX7_takes_86 ⟨(Nat.le_of_ble_eq_true rfl), (Nat.le_of_ble_eq_true rfl)⟩ (fun H locs hP hD hS => ?_)
          replace h := bd h
          obtain ⟨_, q42, h⟩ := h
          cases h
          exact e_zm hx hb hlocks (zz_spec q42) hr hP hD hS (Nat.le_of_ble_eq_true rfl) (Nat.le_of_ble_eq_true rfl) dX7_takes_89
        · replace h := ifn c38 h
          refine lv_aload_n hx hb dX7_takes_62 rfl (lv_at hl 0 rfl) ?_
          replace h := bd h
          obtain ⟨x43, q44, h⟩ := h
          refine fg_6_10 hx hb hts hown hK hP wd_897 q44 dX7_takes_63 ?_
          refine lv_if_ne (tgt := 81) hx hb dX7_takes_66 (by decide) (fun c45 => ?_) (fun c45 => ?_)
          · replace h := ifn c45 h
            refine lv_aload_n hx hb dX7_takes_81 rfl (lv_at hl 0 rfl) ?_
            refine lv_iload_n hx hb dX7_takes_82 rfl (lv_at hl 1 rfl) ?_
            refine lv_bipush (v := 48) hx hb dX7_takes_83 (by decide) ?_
            refine lv_isub hx hb dX7_takes_85 ?_
            replace h := bd h
            obtain ⟨_, q46, h⟩ := h
            replace h := bd h
            obtain ⟨z48, q47, h⟩ := h
            refine c_X7_takesDigit ⟨hx, hb, hml, hown, hts⟩ hl.1 hK hP hD hA hS wd_1028 ⟨(Nat.le_of_ble_eq_true rfl), (Nat.le_of_ble_eq_true rfl)⟩ q47 q46 (Nat.le_of_ble_eq_true rfl) dX7_takes_86 ⟨(Nat.le_of_ble_eq_true rfl), (Nat.le_of_ble_eq_true rfl)⟩ (fun H locs hP hD hS => ?_)
            replace h := bd h
            obtain ⟨_, q49, h⟩ := h
            cases h
            exact e_zm hx hb hlocks (zz_spec q49) hr hP hD hS (Nat.le_of_ble_eq_true rfl) (Nat.le_of_ble_eq_true rfl) dX7_takes_89
          · replace h := ifp c45 h
            refine lv_aload_n hx hb dX7_takes_69 rfl (lv_at hl 0 rfl) ?_
            refine lv_iconst (v := 1) hx hb dX7_takes_70 (by decide) ?_
            replace h := bd h
            obtain ⟨Z50, q51, h⟩ := h
            refine fp_6_10 hx hb hts hown hK hP hD hS wd_897 q51 dX7_takes_71 (fun H locs hz9 hP hD hS => ?_)
            refine lv_aload_n hx hb dX7_takes_74 rfl (lv_at hl 0 rfl) ?_
            refine lv_iconst (v := (-1)) hx hb dX7_takes_75 (by decide) ?_
            replace h := bd h
            obtain ⟨Z52, q53, h⟩ := h
            refine fp_6_11 hx hb hts hown hK hP hD hS wd_898 q53 dX7_takes_76 (fun H locs hz9 hP hD hS => ?_)
            refine lv_iconst (v := 1) hx hb dX7_takes_79 (by decide) ?_
            cases h
            exact e_zm hx hb hlocks (by decide) hr hP hD hS (Nat.le_of_ble_eq_true rfl) (Nat.le_of_ble_eq_true rfl) dX7_takes_80
    · replace h := ifn c29 h
      refine lv_aload_n hx hb dX7_takes_13 rfl (lv_at hl 0 rfl) ?_
      refine lv_dup hx hb dX7_takes_14 rfl ?_
      replace h := bd h
      obtain ⟨x54, q55, h⟩ := h
      refine fg_6_9 hx hb hts hown hK hP wd_896 q55 dX7_takes_15 ?_
      refine lv_iconst (v := 1) hx hb dX7_takes_18 (by decide) ?_
      refine lv_iadd hx hb dX7_takes_19 ?_
      replace h := bd h
      obtain ⟨Z56, q57, h⟩ := h
      refine fp_6_9 hx hb hts hown hK hP hD hS wd_896 q57 dX7_takes_20 (fun H locs hz9 hP hD hS => ?_)
      refine lv_aload_n hx hb dX7_takes_23 rfl (lv_at hl 0 rfl) ?_
      replace h := bd h
      obtain ⟨x58, q59, h⟩ := h
      refine fg_6_8 hx hb hts hown hK hP wd_895 q59 dX7_takes_24 ?_
      refine lv_iconst (v := 2) hx hb dX7_takes_27 (by decide) ?_
      refine lv_aload_n hx hb dX7_takes_28 rfl (lv_at hl 0 rfl) ?_
      replace h := bd h
      obtain ⟨x60, q61, h⟩ := h
      refine fg_6_9 hx hb hts hown hK hP wd_896 q61 dX7_takes_29 ?_
      refine lv_imul hx hb dX7_takes_32 ?_
      refine lv_iconst (v := 1) hx hb dX7_takes_33 (by decide) ?_
      refine lv_iadd hx hb dX7_takes_34 ?_
      refine lv_iconst (v := 1) hx hb dX7_takes_35 (by decide) ?_
      replace h := bd h
      obtain ⟨Z62, q63, h⟩ := h
      refine r_sI hx hb hK hP hD hS q63 dX7_takes_36 (fun H locs hz9 hP hD hS => ?_)
      refine lv_aload_n hx hb dX7_takes_37 rfl (lv_at hl 0 rfl) ?_
      refine lv_iconst (v := 0) hx hb dX7_takes_38 (by decide) ?_
      replace h := bd h
      obtain ⟨Z64, q65, h⟩ := h
      refine fp_6_10 hx hb hts hown hK hP hD hS wd_897 q65 dX7_takes_39 (fun H locs hz9 hP hD hS => ?_)
      refine lv_aload_n hx hb dX7_takes_42 rfl (lv_at hl 0 rfl) ?_
      refine lv_iconst (v := (-1)) hx hb dX7_takes_43 (by decide) ?_
      replace h := bd h
      obtain ⟨Z66, q67, h⟩ := h
      refine fp_6_11 hx hb hts hown hK hP hD hS wd_898 q67 dX7_takes_44 (fun H locs hz9 hP hD hS => ?_)
      refine lv_iconst (v := 1) hx hb dX7_takes_47 (by decide) ?_
      cases h
      exact e_zm hx hb hlocks (by decide) hr hP hD hS (Nat.le_of_ble_eq_true rfl) (Nat.le_of_ble_eq_true rfl) dX7_takes_48
set_option maxRecDepth 100000 in
theorem c_X7_takes {p : Program} {l : Launch} {e : Env} {R : Room} {s : State} {m : MethodId} {args : Array Value} {below : List Frame} {meth : Method} {c : Code} {H : Heap} {locs : List Loc} {cells slots : Nat} {Q : State → Prop} {cc : ByteArray} {pc index nL : Nat} {ls : Array Slot} {rest : List Value} {D : va_G} {cy : Nat → ClassId} {A0 : Nat → Prop} {S : St} {H0 : Heap} {own : String} {u : Unit} {a0 : Nat} {a1 : Int32} {r : Int32} {S1 : St}  (hF : CallFix p m c cc nL s args ALLW own) (hsz : ls.size = nL) (hK : va_K D vwCl (tyL cy) s) (hP : SP D cy S H) (hD : ∀ a, S a ≠ none → A0 a) (hA : ∀ q, H0.size ≤ q → A0 q) (hS : va_S A0 H0 H locs) (hk : Cond.methodLink own index yX7_takes ∈ ALLW) (hR : rm_X7_takes.frames + 1 ≤ R.frames ∧ 8 + (2 + 11) + rm_X7_takes.locals ≤ R.locals) (h : f_X7_takes S a0 a1 = some (r, S1)) (hc : oO S a0 6 = some u) (hW : (rest.map fun v => v.category).sum ≤ 8) (hdg : decode cc pc = .ok (.invokevirtual index, 3)) (hf : cells + 0 ≤ R.cells ∧ slots + 0 ≤ R.slots)
    (kk : ∀ (H1 : Heap) (locs1 : List Loc), SP D cy S1 H1 → (∀ a, S1 a ≠ none → A0 a) → va_S A0 H0 H1 locs1 → W p l e R s m args below meth c H1 locs1 (cells + 0) (slots + 0) Q (F0 m (pc + 3) ls (.int r :: rest))) : W p l e R s m args below meth c H locs cells slots Q (F0 m pc ls (.int a1 :: .ref a0 :: rest)) := by
  exact k_iVm (As := [.int a1]) hF hsz (m_X7_takes l D cy H.size S a0 a1 r S1 h) (cwV_of (n := 1) hF.2.2.2.2 hk wd_1022 wd_37 wd_75 wd_1023 rfl rfl (by decide +kernel) hR) rfl hK hP hD hA hS (ci := 6) hc rfl hW rfl hdg hf kk
/-- VowBlocksModel.rightUpTo()I -/
def f_X7_rightUpTo_L24 (y24_0 : Nat) : Nat → St → Int32 →  Option (Int32 × St)
  | 0, _, _ => none
  | fu + 1, S24_, y24_1 =>
    (gI S24_ y24_0 6 3).bind fun x13 =>
    if x13 ≤ y24_1 then
      some (y24_1, S24_)
    else
      (gR S24_ y24_0 6 4).bind fun x16 =>
      (aI S24_ x16 y24_1).bind fun x18 =>
      (oO S24_ y24_0 6).bind fun _ =>
      (f_X7_takes S24_ y24_0 x18).bind fun z22 =>
      if z22.1 = 0 then
        some (y24_1, z22.2)
      else
        f_X7_rightUpTo_L24 y24_0 fu z22.2 (y24_1 + 1)
def f_X7_rightUpTo (S : St) (a0 : Nat) : Option (Int32 × St) :=
  (pI S a0 6 9 0).bind fun Z1 =>
  (pZ Z1 a0 6 10 0).bind fun Z3 =>
  (pI Z3 a0 6 11 (-1)).bind fun Z5 =>
  (gR Z5 a0 6 8).bind fun x7 =>
  (sI Z5 x7 1 1).bind fun Z9 =>
  (f_X7_rightUpTo_L24 a0 FU Z9 0).bind fun z11 =>
  some (z11.1, z11.2)
abbrev rm_X7_rightUpTo : Room := { frames := 3, cells := 0, slots := 0, locals := 66 }
set_option maxHeartbeats 4000000 in
set_option maxRecDepth 100000 in
theorem m_X7_rightUpTo (l : Launch) (D : va_G) (cy : Nat → ClassId) (sz : Nat) (S : St) (a0 : Nat) (r : Int32) (S1 : St) (h : f_X7_rightUpTo S a0 = some (r, S1)) : Met l yX7_rightUpTo (wsA yX7_rightUpTo cX7_rightUpTo 2 (some .int)) rm_X7_rightUpTo (va_Pc [.ref a0] (PN D cy S sz)) (va_Qi (fun r' (_ : Unit) => r' = r) (fun _ t => PoS D cy S1 (dm S sz) t) (dm S sz)) 0 0 (dm S sz) := by
  refine Met.ofW (cc := cX7_rightUpTo) (maxL := 2) (ret := (some .int)) (by decide) rfl ?_
  intro p e s m args below meth c s₁ B hml hv
  obtain ⟨rfl, hsz, hP, hK⟩ := hv
  have hx := B.exec
  have hb := B.bytes
  have hr := B.returns
  have hts9 := atoms_spec (ws := wsA yX7_rightUpTo cX7_rightUpTo 2 (some .int)) B.pre
  have hts : ∀ w ∈ ALLW, w.before _ s = true := fun w h => hts9 w (List.mem_cons_of_mem _ h)
  have hown : s.vm.findClass RX7 = some m.cls := findClass_of_methodNamed B.named
  have hlocks := B.notSynchronized
  subst hsz
  have hD : ∀ a, S a ≠ none → dm S s.heap.size a := fun a h => Or.inl h
  have hA : ∀ q : Nat, s.heap.size ≤ q → dm S s.heap.size q := fun q h => Or.inr h
  have hS : va_S (dm S s.heap.size) s.heap s.heap [] := va_S.rf
  have hl := lv_entry [.ref a0] (n := 2) (Nat.le_of_ble_eq_true rfl)
  rw [lg_entry_eq]
  generalize (lg_sl [.ref a0] ++ List.replicate (2 - (lg_sl [.ref a0]).length) Slot.unset).toArray = ls at hl ⊢
  have hl : lv_has ls 2 [(0, .ref a0)] := hl
  rw [f_X7_rightUpTo] at h
  refine lv_aload_n hx hb dX7_rightUpTo_0 rfl (lv_at hl 0 rfl) ?_
  refine lv_iconst (v := 0) hx hb dX7_rightUpTo_1 (by decide) ?_
  replace h := bd h
  obtain ⟨Z1, q2, h⟩ := h
  refine fp_6_9 hx hb hts hown hK hP hD hS wd_896 q2 dX7_rightUpTo_2 (fun H locs hz9 hP hD hS => ?_)
  refine lv_aload_n hx hb dX7_rightUpTo_5 rfl (lv_at hl 0 rfl) ?_
  refine lv_iconst (v := 0) hx hb dX7_rightUpTo_6 (by decide) ?_
  replace h := bd h
  obtain ⟨Z3, q4, h⟩ := h
  refine fp_6_10 hx hb hts hown hK hP hD hS wd_897 q4 dX7_rightUpTo_7 (fun H locs hz9 hP hD hS => ?_)
  refine lv_aload_n hx hb dX7_rightUpTo_10 rfl (lv_at hl 0 rfl) ?_
  refine lv_iconst (v := (-1)) hx hb dX7_rightUpTo_11 (by decide) ?_
  replace h := bd h
  obtain ⟨Z5, q6, h⟩ := h
  refine fp_6_11 hx hb hts hown hK hP hD hS wd_898 q6 dX7_rightUpTo_12 (fun H locs hz9 hP hD hS => ?_)
  refine lv_aload_n hx hb dX7_rightUpTo_15 rfl (lv_at hl 0 rfl) ?_
  replace h := bd h
  obtain ⟨x7, q8, h⟩ := h
  refine fg_6_8 hx hb hts hown hK hP wd_895 q8 dX7_rightUpTo_16 ?_
  refine lv_iconst (v := 1) hx hb dX7_rightUpTo_19 (by decide) ?_
  refine lv_iconst (v := 1) hx hb dX7_rightUpTo_20 (by decide) ?_
  replace h := bd h
  obtain ⟨Z9, q10, h⟩ := h
  refine r_sI hx hb hK hP hD hS q10 dX7_rightUpTo_21 (fun H locs hz9 hP hD hS => ?_)
  refine lv_iconst (v := 0) hx hb dX7_rightUpTo_22 (by decide) ?_
  refine lv_istore_n (lv' := [(1, .int 0), (0, .ref a0)]) hx hb dX7_rightUpTo_23 rfl hl (by decide) rfl (fun ls hl => ?_)
  have L24 : ∀ (y24_0 : Nat) (fu : Nat) (S24_ : St) (y24_1 : Int32) (res : Int32 × St), f_X7_rightUpTo_L24 y24_0 fu S24_ y24_1 = some res → ∀ (H : Heap) (locs : List Loc) (ls : Array Slot), SP D cy S24_ H → (∀ a, S24_ a ≠ none → (dm S s.heap.size) a) → va_S (dm S s.heap.size) s.heap H locs → lv_has ls 2 [(0, .ref y24_0), (1, .int y24_1)] → (∀ (H : Heap) (locs : List Loc) (ls : Array Slot), SP D cy res.2 H → (∀ a, res.2 a ≠ none → (dm S s.heap.size) a) → va_S (dm S s.heap.size) s.heap H locs → lv_has ls 2 [(1, .int res.1)] → W p l e rm_X7_rightUpTo s m ([.ref a0] : List Value).toArray below meth c H locs 0 0 (MQ below (va_Qi (fun r' (_ : Unit) => r' = r) (fun _ t => PoS D cy S1 (dm S s.heap.size) t) (dm S s.heap.size)) ([.ref a0] : List Value).toArray s 0 0 (dm S s.heap.size)) (F0 m 51 ls [])) → W p l e rm_X7_rightUpTo s m ([.ref a0] : List Value).toArray below meth c H locs 0 0 (MQ below (va_Qi (fun r' (_ : Unit) => r' = r) (fun _ t => PoS D cy S1 (dm S s.heap.size) t) (dm S s.heap.size)) ([.ref a0] : List Value).toArray s 0 0 (dm S s.heap.size)) (F0 m 24 ls []) := by
    intro y24_0 fu
    induction fu with
    | zero =>
      intro S24_ y24_1 res h
      rw [f_X7_rightUpTo_L24] at h
      cases h
    | succ fu ih =>
      intro S24_ y24_1 res h H locs ls hP hD hS hl hexit
      rw [f_X7_rightUpTo_L24] at h
      refine lv_iload_n hx hb dX7_rightUpTo_24 rfl (lv_at hl 1 rfl) ?_
      refine lv_aload_n hx hb dX7_rightUpTo_25 rfl (lv_at hl 0 rfl) ?_
      replace h := bd h
      obtain ⟨x13, q14, h⟩ := h
      refine fg_6_3 hx hb hts hown hK hP wd_890 q14 dX7_rightUpTo_26 ?_
      refine lv_icmp_ge (tgt := 51) hx hb dX7_rightUpTo_29 (by decide) (fun c15 => ?_) (fun c15 => ?_)
      · replace h := ifp c15 h
        cases h
        exact hexit _ _ _ hP hD hS (lv_sub hl [1] rfl)
      · replace h := ifn c15 h
        refine lv_aload_n hx hb dX7_rightUpTo_32 rfl (lv_at hl 0 rfl) ?_
        refine lv_aload_n hx hb dX7_rightUpTo_33 rfl (lv_at hl 0 rfl) ?_
        replace h := bd h
        obtain ⟨x16, q17, h⟩ := h
        refine fg_6_4 hx hb hts hown hK hP wd_891 q17 dX7_rightUpTo_34 ?_
        refine lv_iload_n hx hb dX7_rightUpTo_37 rfl (lv_at hl 1 rfl) ?_
        replace h := bd h
        obtain ⟨x18, q19, h⟩ := h
        refine r_aI hx hb hK hP q19 dX7_rightUpTo_38 ?_
        replace h := bd h
        obtain ⟨_, q20, h⟩ := h
        replace h := bd h
        obtain ⟨z22, q21, h⟩ := h
        refine c_X7_takes ⟨hx, hb, hml, hown, hts⟩ hl.1 hK hP hD hA hS wd_1020 ⟨(Nat.le_of_ble_eq_true rfl), (Nat.le_of_ble_eq_true rfl)⟩ q21 q20 (Nat.le_of_ble_eq_true rfl) dX7_rightUpTo_39 ⟨(Nat.le_of_ble_eq_true rfl), (Nat.le_of_ble_eq_true rfl)⟩ (fun H locs hP hD hS => ?_)
        refine lv_if_eq (tgt := 51) hx hb dX7_rightUpTo_42 (by decide) (fun c23 => ?_) (fun c23 => ?_)
        · replace h := ifp c23 h
          cases h
          exact hexit _ _ _ hP hD hS (lv_sub hl [1] rfl)
        · replace h := ifn c23 h
          refine lv_iinc (v := (y24_1 + 1)) (lv' := [(1, .int (y24_1 + 1)), (0, .ref y24_0)]) hx hb dX7_rightUpTo_45 hl (k := 1) rfl rfl (by decide) rfl (fun ls hl => ?_)
          refine lv_goto (tgt := 24) hx hb dX7_rightUpTo_48 (by decide) ?_
          exact ih z22.2 (y24_1 + 1) _ h _ _ _ hP hD hS (lv_sub hl [1, 0] rfl) hexit
  replace h := bd h
  obtain ⟨z11, q24, h⟩ := h
  refine L24 a0 FU Z9 0 z11 q24 _ _ _ hP hD hS (lv_sub hl [1, 0] rfl) (fun H locs ls hP hD hS hl => ?_)
  refine lv_iload_n hx hb dX7_rightUpTo_51 rfl (lv_at hl 0 rfl) ?_
  cases h
  exact e_im hx hb hlocks hr hP hD hS (Nat.le_of_ble_eq_true rfl) (Nat.le_of_ble_eq_true rfl) dX7_rightUpTo_52
set_option maxRecDepth 100000 in
theorem c_X7_rightUpTo {p : Program} {l : Launch} {e : Env} {R : Room} {s : State} {m : MethodId} {args : Array Value} {below : List Frame} {meth : Method} {c : Code} {H : Heap} {locs : List Loc} {cells slots : Nat} {Q : State → Prop} {cc : ByteArray} {pc index nL : Nat} {ls : Array Slot} {rest : List Value} {D : va_G} {cy : Nat → ClassId} {A0 : Nat → Prop} {S : St} {H0 : Heap} {own : String} {u : Unit} {a0 : Nat} {r : Int32} {S1 : St}  (hF : CallFix p m c cc nL s args ALLW own) (hsz : ls.size = nL) (hK : va_K D vwCl (tyL cy) s) (hP : SP D cy S H) (hD : ∀ a, S a ≠ none → A0 a) (hA : ∀ q, H0.size ≤ q → A0 q) (hS : va_S A0 H0 H locs) (hk : Cond.methodLink own index yX7_rightUpTo ∈ ALLW) (hR : rm_X7_rightUpTo.frames + 1 ≤ R.frames ∧ 8 + (2 + 11) + rm_X7_rightUpTo.locals ≤ R.locals) (h : f_X7_rightUpTo S a0 = some (r, S1)) (hc : oO S a0 6 = some u) (hW : (rest.map fun v => v.category).sum ≤ 8) (hdg : decode cc pc = .ok (.invokevirtual index, 3)) (hf : cells + 0 ≤ R.cells ∧ slots + 0 ≤ R.slots)
    (kk : ∀ (H1 : Heap) (locs1 : List Loc), SP D cy S1 H1 → (∀ a, S1 a ≠ none → A0 a) → va_S A0 H0 H1 locs1 → W p l e R s m args below meth c H1 locs1 (cells + 0) (slots + 0) Q (F0 m (pc + 3) ls (.int r :: rest))) : W p l e R s m args below meth c H locs cells slots Q (F0 m pc ls (.ref a0 :: rest)) := by
  exact k_iVm (As := []) hF hsz (m_X7_rightUpTo l D cy H.size S a0 r S1 h) (cwV_of (n := 0) hF.2.2.2.2 hk wd_1018 wd_36 wd_75 wd_1019 rfl rfl (by decide +kernel) hR) rfl hK hP hD hA hS (ci := 6) hc rfl hW rfl hdg hf kk
/-- VowBlocksModel.times(I)I -/
def f_X7_times (S : St) (a0 : Nat) (a1 : Int32) : Option (Int32) :=
  (gR S a0 6 8).bind fun x1 =>
  (aI S x1 ((2 * a1) + 1)).bind fun x3 =>
  some x3
abbrev rm_X7_times : Room := { frames := 0, cells := 0, slots := 0, locals := 0 }
set_option maxHeartbeats 4000000 in
set_option maxRecDepth 100000 in
theorem m_X7_times (l : Launch) (D : va_G) (cy : Nat → ClassId) (S : St) (a0 : Nat) (a1 : Int32) (r : Int32) (h : f_X7_times S a0 a1 = some r) : Met l yX7_times (wsA yX7_times cX7_times 2 (some .int)) rm_X7_times (va_Pc [.ref a0, .int a1] (PS D cy S)) (va_Qi (fun r' (_ : Unit) => r' = r) (fun _ _ => True) noA) 0 0 noA := by
  refine Met.ofW (cc := cX7_times) (maxL := 2) (ret := (some .int)) (by decide) rfl ?_
  intro p e s m args below meth c s₁ B hml hv
  obtain ⟨rfl, hP, hK⟩ := hv
  have hx := B.exec
  have hb := B.bytes
  have hr := B.returns
  have hts9 := atoms_spec (ws := wsA yX7_times cX7_times 2 (some .int)) B.pre
  have hts : ∀ w ∈ ALLW, w.before _ s = true := fun w h => hts9 w (List.mem_cons_of_mem _ h)
  have hown : s.vm.findClass RX7 = some m.cls := findClass_of_methodNamed B.named
  have hlocks := B.notSynchronized
  have hS : va_S noA s.heap s.heap [] := va_S.rf
  have hl := lv_entry [.ref a0, .int a1] (n := 2) (Nat.le_of_ble_eq_true rfl)
  rw [lg_entry_eq]
  generalize (lg_sl [.ref a0, .int a1] ++ List.replicate (2 - (lg_sl [.ref a0, .int a1]).length) Slot.unset).toArray = ls at hl ⊢
  have hl : lv_has ls 2 [(0, .ref a0), (1, .int a1)] := hl
  rw [f_X7_times] at h
  refine lv_aload_n hx hb dX7_times_0 rfl (lv_at hl 0 rfl) ?_
  replace h := bd h
  obtain ⟨x1, q2, h⟩ := h
  refine fg_6_8 hx hb hts hown hK hP wd_895 q2 dX7_times_1 ?_
  refine lv_iconst (v := 2) hx hb dX7_times_4 (by decide) ?_
  refine lv_iload_n hx hb dX7_times_5 rfl (lv_at hl 1 rfl) ?_
  refine lv_imul hx hb dX7_times_6 ?_
  refine lv_iconst (v := 1) hx hb dX7_times_7 (by decide) ?_
  refine lv_iadd hx hb dX7_times_8 ?_
  replace h := bd h
  obtain ⟨x3, q4, h⟩ := h
  refine r_aI hx hb hK hP q4 dX7_times_9 ?_
  cases h
  exact e_ip hx hb hlocks hr hS (Nat.le_of_ble_eq_true rfl) (Nat.le_of_ble_eq_true rfl) dX7_times_10
set_option maxRecDepth 100000 in
theorem c_X7_times {p : Program} {l : Launch} {e : Env} {R : Room} {s : State} {m : MethodId} {args : Array Value} {below : List Frame} {meth : Method} {c : Code} {H : Heap} {locs : List Loc} {cells slots : Nat} {Q : State → Prop} {cc : ByteArray} {pc index nL : Nat} {ls : Array Slot} {rest : List Value} {D : va_G} {cy : Nat → ClassId} {A0 : Nat → Prop} {S : St} {H0 : Heap} {own : String} {u : Unit} {a0 : Nat} {a1 : Int32} {r : Int32}  (hF : CallFix p m c cc nL s args ALLW own) (hsz : ls.size = nL) (hK : va_K D vwCl (tyL cy) s) (hP : SP D cy S H) (hS : va_S A0 H0 H locs) (hk : Cond.methodLink own index yX7_times ∈ ALLW) (hR : rm_X7_times.frames + 1 ≤ R.frames ∧ 8 + (2 + 11) + rm_X7_times.locals ≤ R.locals) (h : f_X7_times S a0 a1 = some r) (hc : oO S a0 6 = some u) (hW : (rest.map fun v => v.category).sum ≤ 8) (hdg : decode cc pc = .ok (.invokevirtual index, 3)) (hf : cells + 0 ≤ R.cells ∧ slots + 0 ≤ R.slots)
    (kk : ∀ (H1 : Heap) (locs1 : List Loc), SP D cy S H1 → va_S A0 H0 H1 locs1 → W p l e R s m args below meth c H1 locs1 (cells + 0) (slots + 0) Q (F0 m (pc + 3) ls (.int r :: rest))) : W p l e R s m args below meth c H locs cells slots Q (F0 m pc ls (.int a1 :: .ref a0 :: rest)) := by
  exact k_iVp (As := [.int a1]) hF hsz (m_X7_times l D cy S a0 a1 r h) (cwV_of (n := 1) hF.2.2.2.2 hk wd_1038 wd_41 wd_75 wd_1039 rfl rfl (by decide +kernel) hR) rfl hK hP hS (ci := 6) hc rfl hW rfl hdg hf kk
/-- VowBlocksModel.valuesRead()I -/
def f_X7_valuesRead_L4 (S4_ : St) (y4_0 : Nat) : Nat → Int32 → Int32 →  Option (Int32)
  | 0, _, _ => none
  | fu + 1, y4_1, y4_2 =>
    (gI S4_ y4_0 6 9).bind fun x3 =>
    if x3 < y4_2 then
      some y4_1
    else
      (oO S4_ y4_0 6).bind fun _ =>
      (f_X7_times S4_ y4_0 y4_2).bind fun x8 =>
      f_X7_valuesRead_L4 S4_ y4_0 fu (y4_1 + x8) (y4_2 + 1)
def f_X7_valuesRead (S : St) (a0 : Nat) : Option (Int32) :=
  (f_X7_valuesRead_L4 S a0 FU 0 0).bind fun z1 =>
  some z1
abbrev rm_X7_valuesRead : Room := { frames := 1, cells := 0, slots := 0, locals := 21 }
set_option maxHeartbeats 4000000 in
set_option maxRecDepth 100000 in
theorem m_X7_valuesRead (l : Launch) (D : va_G) (cy : Nat → ClassId) (S : St) (a0 : Nat) (r : Int32) (h : f_X7_valuesRead S a0 = some r) : Met l yX7_valuesRead (wsA yX7_valuesRead cX7_valuesRead 3 (some .int)) rm_X7_valuesRead (va_Pc [.ref a0] (PS D cy S)) (va_Qi (fun r' (_ : Unit) => r' = r) (fun _ _ => True) noA) 0 0 noA := by
  refine Met.ofW (cc := cX7_valuesRead) (maxL := 3) (ret := (some .int)) (by decide) rfl ?_
  intro p e s m args below meth c s₁ B hml hv
  obtain ⟨rfl, hP, hK⟩ := hv
  have hx := B.exec
  have hb := B.bytes
  have hr := B.returns
  have hts9 := atoms_spec (ws := wsA yX7_valuesRead cX7_valuesRead 3 (some .int)) B.pre
  have hts : ∀ w ∈ ALLW, w.before _ s = true := fun w h => hts9 w (List.mem_cons_of_mem _ h)
  have hown : s.vm.findClass RX7 = some m.cls := findClass_of_methodNamed B.named
  have hlocks := B.notSynchronized
  have hS : va_S noA s.heap s.heap [] := va_S.rf
  have hl := lv_entry [.ref a0] (n := 3) (Nat.le_of_ble_eq_true rfl)
  rw [lg_entry_eq]
  generalize (lg_sl [.ref a0] ++ List.replicate (3 - (lg_sl [.ref a0]).length) Slot.unset).toArray = ls at hl ⊢
  have hl : lv_has ls 3 [(0, .ref a0)] := hl
  rw [f_X7_valuesRead] at h
  refine lv_iconst (v := 0) hx hb dX7_valuesRead_0 (by decide) ?_
  refine lv_istore_n (lv' := [(1, .int 0), (0, .ref a0)]) hx hb dX7_valuesRead_1 rfl hl (by decide) rfl (fun ls hl => ?_)
  refine lv_iconst (v := 0) hx hb dX7_valuesRead_2 (by decide) ?_
  refine lv_istore_n (lv' := [(2, .int 0), (1, .int 0), (0, .ref a0)]) hx hb dX7_valuesRead_3 rfl hl (by decide) rfl (fun ls hl => ?_)
  have L4 : ∀ (S4_ : St) (y4_0 : Nat) (fu : Nat) (y4_1 : Int32) (y4_2 : Int32) (res : Int32), f_X7_valuesRead_L4 S4_ y4_0 fu y4_1 y4_2 = some res → ∀ (H : Heap) (locs : List Loc) (ls : Array Slot), SP D cy S4_ H → va_S noA s.heap H locs → lv_has ls 3 [(0, .ref y4_0), (1, .int y4_1), (2, .int y4_2)] → (∀ (H : Heap) (locs : List Loc) (ls : Array Slot), SP D cy S4_ H → va_S noA s.heap H locs → lv_has ls 3 [(1, .int res)] → W p l e rm_X7_valuesRead s m ([.ref a0] : List Value).toArray below meth c H locs 0 0 (MQ below (va_Qi (fun r' (_ : Unit) => r' = r) (fun _ _ => True) noA) ([.ref a0] : List Value).toArray s 0 0 noA) (F0 m 26 ls [])) → W p l e rm_X7_valuesRead s m ([.ref a0] : List Value).toArray below meth c H locs 0 0 (MQ below (va_Qi (fun r' (_ : Unit) => r' = r) (fun _ _ => True) noA) ([.ref a0] : List Value).toArray s 0 0 noA) (F0 m 4 ls []) := by
    intro S4_ y4_0 fu
    induction fu with
    | zero =>
      intro y4_1 y4_2 res h
      rw [f_X7_valuesRead_L4] at h
      cases h
    | succ fu ih =>
      intro y4_1 y4_2 res h H locs ls hP hS hl hexit
      rw [f_X7_valuesRead_L4] at h
      refine lv_iload_n hx hb dX7_valuesRead_4 rfl (lv_at hl 2 rfl) ?_
      refine lv_aload_n hx hb dX7_valuesRead_5 rfl (lv_at hl 0 rfl) ?_
      replace h := bd h
      obtain ⟨x3, q4, h⟩ := h
      refine fg_6_9 hx hb hts hown hK hP wd_896 q4 dX7_valuesRead_6 ?_
      refine lv_icmp_gt (tgt := 26) hx hb dX7_valuesRead_9 (by decide) (fun c5 => ?_) (fun c5 => ?_)
      · replace h := ifp c5 h
        cases h
        exact hexit _ _ _ hP hS (lv_sub hl [1] rfl)
      · replace h := ifn c5 h
        refine lv_iload_n hx hb dX7_valuesRead_12 rfl (lv_at hl 1 rfl) ?_
        refine lv_aload_n hx hb dX7_valuesRead_13 rfl (lv_at hl 0 rfl) ?_
        refine lv_iload_n hx hb dX7_valuesRead_14 rfl (lv_at hl 2 rfl) ?_
        replace h := bd h
        obtain ⟨_, q6, h⟩ := h
        replace h := bd h
        obtain ⟨x8, q7, h⟩ := h
        refine c_X7_times ⟨hx, hb, hml, hown, hts⟩ hl.1 hK hP hS wd_1036 ⟨(Nat.le_of_ble_eq_true rfl), (Nat.le_of_ble_eq_true rfl)⟩ q7 q6 (Nat.le_of_ble_eq_true rfl) dX7_valuesRead_15 ⟨(Nat.le_of_ble_eq_true rfl), (Nat.le_of_ble_eq_true rfl)⟩ (fun H locs hP hS => ?_)
        refine lv_iadd hx hb dX7_valuesRead_18 ?_
        refine lv_istore_n (lv' := [(1, .int (y4_1 + x8)), (0, .ref y4_0), (2, .int y4_2)]) hx hb dX7_valuesRead_19 rfl hl (by decide) rfl (fun ls hl => ?_)
        refine lv_iinc (v := (y4_2 + 1)) (lv' := [(2, .int (y4_2 + 1)), (1, .int (y4_1 + x8)), (0, .ref y4_0)]) hx hb dX7_valuesRead_20 hl (k := 2) rfl rfl (by decide) rfl (fun ls hl => ?_)
        refine lv_goto (tgt := 4) hx hb dX7_valuesRead_23 (by decide) ?_
        exact ih (y4_1 + x8) (y4_2 + 1) _ h _ _ _ hP hS (lv_sub hl [2, 1, 0] rfl) hexit
  replace h := bd h
  obtain ⟨z1, q9, h⟩ := h
  refine L4 S a0 FU 0 0 z1 q9 _ _ _ hP hS (lv_sub hl [2, 1, 0] rfl) (fun H locs ls hP hS hl => ?_)
  refine lv_iload_n hx hb dX7_valuesRead_26 rfl (lv_at hl 0 rfl) ?_
  cases h
  exact e_ip hx hb hlocks hr hS (Nat.le_of_ble_eq_true rfl) (Nat.le_of_ble_eq_true rfl) dX7_valuesRead_27
set_option maxRecDepth 100000 in
theorem c_X7_valuesRead {p : Program} {l : Launch} {e : Env} {R : Room} {s : State} {m : MethodId} {args : Array Value} {below : List Frame} {meth : Method} {c : Code} {H : Heap} {locs : List Loc} {cells slots : Nat} {Q : State → Prop} {cc : ByteArray} {pc index nL : Nat} {ls : Array Slot} {rest : List Value} {D : va_G} {cy : Nat → ClassId} {A0 : Nat → Prop} {S : St} {H0 : Heap} {own : String} {u : Unit} {a0 : Nat} {r : Int32}  (hF : CallFix p m c cc nL s args ALLW own) (hsz : ls.size = nL) (hK : va_K D vwCl (tyL cy) s) (hP : SP D cy S H) (hS : va_S A0 H0 H locs) (hk : Cond.methodLink own index yX7_valuesRead ∈ ALLW) (hR : rm_X7_valuesRead.frames + 1 ≤ R.frames ∧ 8 + (3 + 11) + rm_X7_valuesRead.locals ≤ R.locals) (h : f_X7_valuesRead S a0 = some r) (hc : oO S a0 6 = some u) (hW : (rest.map fun v => v.category).sum ≤ 8) (hdg : decode cc pc = .ok (.invokevirtual index, 3)) (hf : cells + 0 ≤ R.cells ∧ slots + 0 ≤ R.slots)
    (kk : ∀ (H1 : Heap) (locs1 : List Loc), SP D cy S H1 → va_S A0 H0 H1 locs1 → W p l e R s m args below meth c H1 locs1 (cells + 0) (slots + 0) Q (F0 m (pc + 3) ls (.int r :: rest))) : W p l e R s m args below meth c H locs cells slots Q (F0 m pc ls (.ref a0 :: rest)) := by
  exact k_iVp (As := []) hF hsz (m_X7_valuesRead l D cy S a0 r h) (cwV_of (n := 0) hF.2.2.2.2 hk wd_1034 wd_40 wd_75 wd_1035 rfl rfl (by decide +kernel) hR) rfl hK hP hS (ci := 6) hc rfl hW rfl hdg hf kk
/-- VowBlocksModel.read()I -/
def f_X7_read_L98 (y98_0 : Nat) (y98_2 : Int32) (y98_3 : Int32) : Nat → St → Int32 →  Option (St)
  | 0, _, _ => none
  | fu + 1, S98_, y98_4 =>
    (oO S98_ y98_0 6).bind fun _ =>
    (f_X7_times S98_ y98_0 y98_3).bind fun x45 =>
    if x45 ≤ y98_4 then
      some S98_
    else
      (oO S98_ y98_0 6).bind fun _ =>
      (f_X7_of S98_ y98_0 y98_2 0).bind fun x49 =>
      (gR S98_ y98_0 6 8).bind fun x50 =>
      (aI S98_ x50 (2 * y98_3)).bind fun x52 =>
      (oO S98_ y98_0 6).bind fun _ =>
      (f_X7_setOf S98_ y98_0 y98_2 (8 + x49) x52).bind fun z56 =>
      (oO z56 y98_0 6).bind fun _ =>
      (f_X7_of z56 y98_0 y98_2 0).bind fun x59 =>
      (oO z56 y98_0 6).bind fun _ =>
      (f_X7_setOf z56 y98_0 y98_2 0 (x59 + 1)).bind fun z62 =>
      f_X7_read_L98 y98_0 y98_2 y98_3 fu z62 (y98_4 + 1)
def f_X7_read_L87 (y87_0 : Nat) (y87_2 : Int32) : Nat → St → Int32 →  Option (St)
  | 0, _, _ => none
  | fu + 1, S87_, y87_3 =>
    (gI S87_ y87_0 6 9).bind fun x38 =>
    if x38 < y87_3 then
      some S87_
    else
      (f_X7_read_L98 y87_0 y87_2 y87_3 FU S87_ 0).bind fun z41 =>
      f_X7_read_L87 y87_0 y87_2 fu z41 (y87_3 + 1)
def f_X7_read (S : St) (a0 : Nat) : Option (Int32 × St) :=
  (oO S a0 6).bind fun _ =>
  (f_X7_rightUpTo S a0).bind fun z3 =>
  (gI z3.2 a0 6 3).bind fun x4 =>
  (
    if z3.1 = x4 then
      (oO z3.2 a0 6).bind fun _ =>
      (f_X7_isEnded z3.2 a0).bind fun x10 =>
      if x10 = 0 then
        some 0
      else
        some 1
    else
      some 0
  : Option (Int32)).bind fun t6 =>
  (
    if t6 = 0 then
      some 1
    else
      (oO z3.2 a0 6).bind fun _ =>
      (f_X7_valuesRead z3.2 a0).bind fun x16 =>
      if x16 ≤ 24 then
        (gR z3.2 a0 6 0).bind fun x18 =>
        (aI z3.2 x18 2).bind fun x20 =>
        if x20 = 8 then
          some 2
        else
          some 0
      else
        some 1
  : Option (Int32)).bind fun t12 =>
  (pI z3.2 a0 6 5 t12).bind fun Z23 =>
  (gI Z23 a0 6 5).bind fun x25 =>
  if x25 ≤ 0 then
    (oO Z23 a0 6).bind fun _ =>
    (f_X7_save Z23 a0).bind fun z30 =>
    (pI z30 a0 6 3 0).bind fun Z31 =>
    (oO Z31 a0 6).bind fun _ =>
    (f_X7_begin Z31 a0 0).bind fun z35 =>
    (f_X7_read_L87 a0 z35.1 FU z35.2 0).bind fun z36 =>
    (oO z36 a0 6).bind fun _ =>
    (f_X7_choose z36 a0 z35.1).bind fun z67 =>
    some (z35.1, z67)
  else
    some (0, Z23)
abbrev rm_X7_read : Room := { frames := 6, cells := 0, slots := 0, locals := 130 }
set_option maxHeartbeats 4000000 in
set_option maxRecDepth 100000 in
theorem m_X7_read (l : Launch) (D : va_G) (cy : Nat → ClassId) (sz : Nat) (S : St) (a0 : Nat) (r : Int32) (S1 : St) (h : f_X7_read S a0 = some (r, S1)) : Met l yX7_read (wsA yX7_read cX7_read 5 (some .int)) rm_X7_read (va_Pc [.ref a0] (PN D cy S sz)) (va_Qi (fun r' (_ : Unit) => r' = r) (fun _ t => PoS D cy S1 (dm S sz) t) (dm S sz)) 0 0 (dm S sz) := by
  refine Met.ofW (cc := cX7_read) (maxL := 5) (ret := (some .int)) (by decide) rfl ?_
  intro p e s m args below meth c s₁ B hml hv
  obtain ⟨rfl, hsz, hP, hK⟩ := hv
  have hx := B.exec
  have hb := B.bytes
  have hr := B.returns
  have hts9 := atoms_spec (ws := wsA yX7_read cX7_read 5 (some .int)) B.pre
  have hts : ∀ w ∈ ALLW, w.before _ s = true := fun w h => hts9 w (List.mem_cons_of_mem _ h)
  have hown : s.vm.findClass RX7 = some m.cls := findClass_of_methodNamed B.named
  have hlocks := B.notSynchronized
  subst hsz
  have hD : ∀ a, S a ≠ none → dm S s.heap.size a := fun a h => Or.inl h
  have hA : ∀ q : Nat, s.heap.size ≤ q → dm S s.heap.size q := fun q h => Or.inr h
  have hS : va_S (dm S s.heap.size) s.heap s.heap [] := va_S.rf
  have hl := lv_entry [.ref a0] (n := 5) (Nat.le_of_ble_eq_true rfl)
  rw [lg_entry_eq]
  generalize (lg_sl [.ref a0] ++ List.replicate (5 - (lg_sl [.ref a0]).length) Slot.unset).toArray = ls at hl ⊢
  have hl : lv_has ls 5 [(0, .ref a0)] := hl
  rw [f_X7_read] at h
  refine lv_aload_n hx hb dX7_read_0 rfl (lv_at hl 0 rfl) ?_
  replace h := bd h
  obtain ⟨_, q1, h⟩ := h
  replace h := bd h
  obtain ⟨z3, q2, h⟩ := h
  refine c_X7_rightUpTo ⟨hx, hb, hml, hown, hts⟩ hl.1 hK hP hD hA hS wd_1016 ⟨(Nat.le_of_ble_eq_true rfl), (Nat.le_of_ble_eq_true rfl)⟩ q2 q1 (Nat.le_of_ble_eq_true rfl) dX7_read_1 ⟨(Nat.le_of_ble_eq_true rfl), (Nat.le_of_ble_eq_true rfl)⟩ (fun H locs hP hD hS => ?_)
  refine lv_aload_n hx hb dX7_read_4 rfl (lv_at hl 0 rfl) ?_
  replace h := bd h
  obtain ⟨x4, q5, h⟩ := h
  refine fg_6_3 hx hb hts hown hK hP wd_890 q5 dX7_read_5 ?_
  replace h := bd h
  obtain ⟨t6, ht, h⟩ := h
  have K6 : ∀ (H : Heap) (locs : List Loc) (ls : Array Slot), SP D cy z3.2 H → (∀ a, z3.2 a ≠ none → (dm S s.heap.size) a) → va_S (dm S s.heap.size) s.heap H locs → lv_has ls 5 [(0, .ref a0)] → W p l e rm_X7_read s m ([.ref a0] : List Value).toArray below meth c H locs 0 0 (MQ below (va_Qi (fun r' (_ : Unit) => r' = r) (fun _ t => PoS D cy S1 (dm S s.heap.size) t) (dm S s.heap.size)) ([.ref a0] : List Value).toArray s 0 0 (dm S s.heap.size)) (F0 m 23 ls [.int t6]) := by
    intro H locs ls hP hD hS hl
    refine lv_istore_n (lv' := [(1, .int t6), (0, .ref a0)]) hx hb dX7_read_23 rfl hl (by decide) rfl (fun ls hl => ?_)
    refine lv_aload_n hx hb dX7_read_24 rfl (lv_at hl 1 rfl) ?_
    refine lv_iload_n hx hb dX7_read_25 rfl (lv_at hl 0 rfl) ?_
    replace h := bd h
    obtain ⟨t12, ht, h⟩ := h
    have K12 : ∀ (H : Heap) (locs : List Loc) (ls : Array Slot), SP D cy z3.2 H → (∀ a, z3.2 a ≠ none → (dm S s.heap.size) a) → va_S (dm S s.heap.size) s.heap H locs → lv_has ls 5 [(0, .ref a0)] → W p l e rm_X7_read s m ([.ref a0] : List Value).toArray below meth c H locs 0 0 (MQ below (va_Qi (fun r' (_ : Unit) => r' = r) (fun _ t => PoS D cy S1 (dm S s.heap.size) t) (dm S s.heap.size)) ([.ref a0] : List Value).toArray s 0 0 (dm S s.heap.size)) (F0 m 58 ls [.int t12, .ref a0]) := by
      intro H locs ls hP hD hS hl
      replace h := bd h
      obtain ⟨Z23, q24, h⟩ := h
      refine fp_6_5 hx hb hts hown hK hP hD hS wd_892 q24 dX7_read_58 (fun H locs hz9 hP hD hS => ?_)
      refine lv_aload_n hx hb dX7_read_61 rfl (lv_at hl 0 rfl) ?_
      replace h := bd h
      obtain ⟨x25, q26, h⟩ := h
      refine fg_6_5 hx hb hts hown hK hP wd_892 q26 dX7_read_62 ?_
      refine lv_if_le (tgt := 70) hx hb dX7_read_65 (by decide) (fun c27 => ?_) (fun c27 => ?_)
      · replace h := ifp c27 h
        refine lv_aload_n hx hb dX7_read_70 rfl (lv_at hl 0 rfl) ?_
        replace h := bd h
        obtain ⟨_, q28, h⟩ := h
        replace h := bd h
        obtain ⟨z30, q29, h⟩ := h
        refine c_X7_save ⟨hx, hb, hml, hown, hts⟩ hl.1 hK hP hD hA hS wd_941 ⟨(Nat.le_of_ble_eq_true rfl), (Nat.le_of_ble_eq_true rfl)⟩ q29 q28 (Nat.le_of_ble_eq_true rfl) dX7_read_71 ⟨(Nat.le_of_ble_eq_true rfl), (Nat.le_of_ble_eq_true rfl)⟩ (fun H locs hP hD hS => ?_)
        refine lv_aload_n hx hb dX7_read_74 rfl (lv_at hl 0 rfl) ?_
        refine lv_iconst (v := 0) hx hb dX7_read_75 (by decide) ?_
        replace h := bd h
        obtain ⟨Z31, q32, h⟩ := h
        refine fp_6_3 hx hb hts hown hK hP hD hS wd_890 q32 dX7_read_76 (fun H locs hz9 hP hD hS => ?_)
        refine lv_aload_n hx hb dX7_read_79 rfl (lv_at hl 0 rfl) ?_
        refine lv_iconst (v := 0) hx hb dX7_read_80 (by decide) ?_
        replace h := bd h
        obtain ⟨_, q33, h⟩ := h
        replace h := bd h
        obtain ⟨z35, q34, h⟩ := h
        refine c_X7_begin ⟨hx, hb, hml, hown, hts⟩ hl.1 hK hP hD hA hS wd_945 ⟨(Nat.le_of_ble_eq_true rfl), (Nat.le_of_ble_eq_true rfl)⟩ q34 q33 (Nat.le_of_ble_eq_true rfl) dX7_read_81 ⟨(Nat.le_of_ble_eq_true rfl), (Nat.le_of_ble_eq_true rfl)⟩ (fun H locs hP hD hS => ?_)
        refine lv_istore_n (lv' := [(2, .int z35.1), (0, .ref a0)]) hx hb dX7_read_84 rfl hl (by decide) rfl (fun ls hl => ?_)
        refine lv_iconst (v := 0) hx hb dX7_read_85 (by decide) ?_
        refine lv_istore_n (lv' := [(3, .int 0), (2, .int z35.1), (0, .ref a0)]) hx hb dX7_read_86 rfl hl (by decide) rfl (fun ls hl => ?_)
        have L87 : ∀ (y87_0 : Nat) (y87_2 : Int32) (fu : Nat) (S87_ : St) (y87_3 : Int32) (res : St), f_X7_read_L87 y87_0 y87_2 fu S87_ y87_3 = some res → ∀ (H : Heap) (locs : List Loc) (ls : Array Slot), SP D cy S87_ H → (∀ a, S87_ a ≠ none → (dm S s.heap.size) a) → va_S (dm S s.heap.size) s.heap H locs → lv_has ls 5 [(0, .ref y87_0), (2, .int y87_2), (3, .int y87_3)] → (∀ (H : Heap) (locs : List Loc) (ls : Array Slot), SP D cy res H → (∀ a, res a ≠ none → (dm S s.heap.size) a) → va_S (dm S s.heap.size) s.heap H locs → lv_has ls 5 [(0, .ref y87_0), (2, .int y87_2)] → W p l e rm_X7_read s m ([.ref a0] : List Value).toArray below meth c H locs 0 0 (MQ below (va_Qi (fun r' (_ : Unit) => r' = r) (fun _ t => PoS D cy S1 (dm S s.heap.size) t) (dm S s.heap.size)) ([.ref a0] : List Value).toArray s 0 0 (dm S s.heap.size)) (F0 m 156 ls [])) → W p l e rm_X7_read s m ([.ref a0] : List Value).toArray below meth c H locs 0 0 (MQ below (va_Qi (fun r' (_ : Unit) => r' = r) (fun _ t => PoS D cy S1 (dm S s.heap.size) t) (dm S s.heap.size)) ([.ref a0] : List Value).toArray s 0 0 (dm S s.heap.size)) (F0 m 87 ls []) := by
          intro y87_0 y87_2 fu
          induction fu with
          | zero =>
            intro S87_ y87_3 res h
            rw [f_X7_read_L87] at h
            cases h
          | succ fu ih =>
            intro S87_ y87_3 res h H locs ls hP hD hS hl hexit
            rw [f_X7_read_L87] at h
            refine lv_iload_n hx hb dX7_read_87 rfl (lv_at hl 2 rfl) ?_
            refine lv_aload_n hx hb dX7_read_88 rfl (lv_at hl 0 rfl) ?_
            replace h := bd h
            obtain ⟨x38, q39, h⟩ := h
            refine fg_6_9 hx hb hts hown hK hP wd_896 q39 dX7_read_89 ?_
            refine lv_icmp_gt (tgt := 156) hx hb dX7_read_92 (by decide) (fun c40 => ?_) (fun c40 => ?_)
            · replace h := ifp c40 h
              cases h
              exact hexit _ _ _ hP hD hS (lv_sub hl [0, 1] rfl)
            · replace h := ifn c40 h
              refine lv_iconst (v := 0) hx hb dX7_read_95 (by decide) ?_
              refine lv_istore (lv' := [(4, .int 0), (0, .ref y87_0), (2, .int y87_2), (3, .int y87_3)]) hx hb dX7_read_96 hl (by decide) rfl (fun ls hl => ?_)
              have L98 : ∀ (y98_0 : Nat) (y98_2 : Int32) (y98_3 : Int32) (fu : Nat) (S98_ : St) (y98_4 : Int32) (res : St), f_X7_read_L98 y98_0 y98_2 y98_3 fu S98_ y98_4 = some res → ∀ (H : Heap) (locs : List Loc) (ls : Array Slot), SP D cy S98_ H → (∀ a, S98_ a ≠ none → (dm S s.heap.size) a) → va_S (dm S s.heap.size) s.heap H locs → lv_has ls 5 [(0, .ref y98_0), (2, .int y98_2), (3, .int y98_3), (4, .int y98_4)] → (∀ (H : Heap) (locs : List Loc) (ls : Array Slot), SP D cy res H → (∀ a, res a ≠ none → (dm S s.heap.size) a) → va_S (dm S s.heap.size) s.heap H locs → lv_has ls 5 [(0, .ref y98_0), (2, .int y98_2), (3, .int y98_3)] → W p l e rm_X7_read s m ([.ref a0] : List Value).toArray below meth c H locs 0 0 (MQ below (va_Qi (fun r' (_ : Unit) => r' = r) (fun _ t => PoS D cy S1 (dm S s.heap.size) t) (dm S s.heap.size)) ([.ref a0] : List Value).toArray s 0 0 (dm S s.heap.size)) (F0 m 150 ls [])) → W p l e rm_X7_read s m ([.ref a0] : List Value).toArray below meth c H locs 0 0 (MQ below (va_Qi (fun r' (_ : Unit) => r' = r) (fun _ t => PoS D cy S1 (dm S s.heap.size) t) (dm S s.heap.size)) ([.ref a0] : List Value).toArray s 0 0 (dm S s.heap.size)) (F0 m 98 ls []) := by
                intro y98_0 y98_2 y98_3 fu
                induction fu with
                | zero =>
                  intro S98_ y98_4 res h
                  rw [f_X7_read_L98] at h
                  cases h
                | succ fu ih =>
                  intro S98_ y98_4 res h H locs ls hP hD hS hl hexit
                  rw [f_X7_read_L98] at h
                  refine lv_iload hx hb dX7_read_98 (lv_at hl 3 rfl) ?_
                  refine lv_aload_n hx hb dX7_read_100 rfl (lv_at hl 0 rfl) ?_
                  refine lv_iload_n hx hb dX7_read_101 rfl (lv_at hl 2 rfl) ?_
                  replace h := bd h
                  obtain ⟨_, q43, h⟩ := h
                  replace h := bd h
                  obtain ⟨x45, q44, h⟩ := h
                  refine c_X7_times ⟨hx, hb, hml, hown, hts⟩ hl.1 hK hP hS wd_1036 ⟨(Nat.le_of_ble_eq_true rfl), (Nat.le_of_ble_eq_true rfl)⟩ q44 q43 (Nat.le_of_ble_eq_true rfl) dX7_read_102 ⟨(Nat.le_of_ble_eq_true rfl), (Nat.le_of_ble_eq_true rfl)⟩ (fun H locs hP hS => ?_)
                  refine lv_icmp_ge (tgt := 150) hx hb dX7_read_105 (by decide) (fun c46 => ?_) (fun c46 => ?_)
                  · replace h := ifp c46 h
                    cases h
                    exact hexit _ _ _ hP hD hS (lv_sub hl [0, 1, 2] rfl)
                  · replace h := ifn c46 h
                    refine lv_aload_n hx hb dX7_read_108 rfl (lv_at hl 0 rfl) ?_
                    refine lv_iload_n hx hb dX7_read_109 rfl (lv_at hl 1 rfl) ?_
                    refine lv_bipush (v := 8) hx hb dX7_read_110 (by decide) ?_
                    refine lv_aload_n hx hb dX7_read_112 rfl (lv_at hl 0 rfl) ?_
                    refine lv_iload_n hx hb dX7_read_113 rfl (lv_at hl 1 rfl) ?_
                    refine lv_iconst (v := 0) hx hb dX7_read_114 (by decide) ?_
                    replace h := bd h
                    obtain ⟨_, q47, h⟩ := h
                    replace h := bd h
                    obtain ⟨x49, q48, h⟩ := h
                    refine c_X7_of ⟨hx, hb, hml, hown, hts⟩ hl.1 hK hP hS wd_961 ⟨(Nat.le_of_ble_eq_true rfl), (Nat.le_of_ble_eq_true rfl)⟩ q48 q47 (Nat.le_of_ble_eq_true rfl) dX7_read_115 ⟨(Nat.le_of_ble_eq_true rfl), (Nat.le_of_ble_eq_true rfl)⟩ (fun H locs hP hS => ?_)
                    refine lv_iadd hx hb dX7_read_118 ?_
                    refine lv_aload_n hx hb dX7_read_119 rfl (lv_at hl 0 rfl) ?_
                    replace h := bd h
                    obtain ⟨x50, q51, h⟩ := h
                    refine fg_6_8 hx hb hts hown hK hP wd_895 q51 dX7_read_120 ?_
                    refine lv_iconst (v := 2) hx hb dX7_read_123 (by decide) ?_
                    refine lv_iload_n hx hb dX7_read_124 rfl (lv_at hl 2 rfl) ?_
                    refine lv_imul hx hb dX7_read_125 ?_
                    replace h := bd h
                    obtain ⟨x52, q53, h⟩ := h
                    refine r_aI hx hb hK hP q53 dX7_read_126 ?_
                    replace h := bd h
                    obtain ⟨_, q54, h⟩ := h
                    replace h := bd h
                    obtain ⟨z56, q55, h⟩ := h
                    refine c_X7_setOf ⟨hx, hb, hml, hown, hts⟩ hl.1 hK hP hD hA hS wd_949 ⟨(Nat.le_of_ble_eq_true rfl), (Nat.le_of_ble_eq_true rfl)⟩ q55 q54 (Nat.le_of_ble_eq_true rfl) dX7_read_127 ⟨(Nat.le_of_ble_eq_true rfl), (Nat.le_of_ble_eq_true rfl)⟩ (fun H locs hP hD hS => ?_)
                    refine lv_aload_n hx hb dX7_read_130 rfl (lv_at hl 0 rfl) ?_
                    refine lv_iload_n hx hb dX7_read_131 rfl (lv_at hl 1 rfl) ?_
                    refine lv_iconst (v := 0) hx hb dX7_read_132 (by decide) ?_
                    refine lv_aload_n hx hb dX7_read_133 rfl (lv_at hl 0 rfl) ?_
                    refine lv_iload_n hx hb dX7_read_134 rfl (lv_at hl 1 rfl) ?_
                    refine lv_iconst (v := 0) hx hb dX7_read_135 (by decide) ?_
                    replace h := bd h
                    obtain ⟨_, q57, h⟩ := h
                    replace h := bd h
                    obtain ⟨x59, q58, h⟩ := h
                    refine c_X7_of ⟨hx, hb, hml, hown, hts⟩ hl.1 hK hP hS wd_961 ⟨(Nat.le_of_ble_eq_true rfl), (Nat.le_of_ble_eq_true rfl)⟩ q58 q57 (Nat.le_of_ble_eq_true rfl) dX7_read_136 ⟨(Nat.le_of_ble_eq_true rfl), (Nat.le_of_ble_eq_true rfl)⟩ (fun H locs hP hS => ?_)
                    refine lv_iconst (v := 1) hx hb dX7_read_139 (by decide) ?_
                    refine lv_iadd hx hb dX7_read_140 ?_
                    replace h := bd h
                    obtain ⟨_, q60, h⟩ := h
                    replace h := bd h
                    obtain ⟨z62, q61, h⟩ := h
                    refine c_X7_setOf ⟨hx, hb, hml, hown, hts⟩ hl.1 hK hP hD hA hS wd_949 ⟨(Nat.le_of_ble_eq_true rfl), (Nat.le_of_ble_eq_true rfl)⟩ q61 q60 (Nat.le_of_ble_eq_true rfl) dX7_read_141 ⟨(Nat.le_of_ble_eq_true rfl), (Nat.le_of_ble_eq_true rfl)⟩ (fun H locs hP hD hS => ?_)
                    refine lv_iinc (v := (y98_4 + 1)) (lv' := [(4, .int (y98_4 + 1)), (0, .ref y98_0), (2, .int y98_2), (3, .int y98_3)]) hx hb dX7_read_144 hl (k := 3) rfl rfl (by decide) rfl (fun ls hl => ?_)
                    refine lv_goto (tgt := 98) hx hb dX7_read_147 (by decide) ?_
                    exact ih z62 (y98_4 + 1) _ h _ _ _ hP hD hS (lv_sub hl [1, 2, 3, 0] rfl) hexit
              replace h := bd h
              obtain ⟨z41, q63, h⟩ := h
              refine L98 y87_0 y87_2 y87_3 FU S87_ 0 z41 q63 _ _ _ hP hD hS (lv_sub hl [1, 2, 3, 0] rfl) (fun H locs ls hP hD hS hl => ?_)
              refine lv_iinc (v := (y87_3 + 1)) (lv' := [(3, .int (y87_3 + 1)), (0, .ref y87_0), (2, .int y87_2)]) hx hb dX7_read_150 hl (k := 2) rfl rfl (by decide) rfl (fun ls hl => ?_)
              refine lv_goto (tgt := 87) hx hb dX7_read_153 (by decide) ?_
              exact ih z41 (y87_3 + 1) _ h _ _ _ hP hD hS (lv_sub hl [1, 2, 0] rfl) hexit
        replace h := bd h
        obtain ⟨z36, q64, h⟩ := h
        refine L87 a0 z35.1 FU z35.2 0 z36 q64 _ _ _ hP hD hS (lv_sub hl [2, 1, 0] rfl) (fun H locs ls hP hD hS hl => ?_)
        refine lv_aload_n hx hb dX7_read_156 rfl (lv_at hl 0 rfl) ?_
        refine lv_iload_n hx hb dX7_read_157 rfl (lv_at hl 1 rfl) ?_
        replace h := bd h
        obtain ⟨_, q65, h⟩ := h
        replace h := bd h
        obtain ⟨z67, q66, h⟩ := h
        refine c_X7_choose ⟨hx, hb, hml, hown, hts⟩ hl.1 hK hP hD hA hS wd_953 ⟨(Nat.le_of_ble_eq_true rfl), (Nat.le_of_ble_eq_true rfl)⟩ q66 q65 (Nat.le_of_ble_eq_true rfl) dX7_read_158 ⟨(Nat.le_of_ble_eq_true rfl), (Nat.le_of_ble_eq_true rfl)⟩ (fun H locs hP hD hS => ?_)
        refine lv_iload_n hx hb dX7_read_161 rfl (lv_at hl 1 rfl) ?_
        cases h
        exact e_im hx hb hlocks hr hP hD hS (Nat.le_of_ble_eq_true rfl) (Nat.le_of_ble_eq_true rfl) dX7_read_162
      · replace h := ifn c27 h
        refine lv_iconst (v := 0) hx hb dX7_read_68 (by decide) ?_
        cases h
        exact e_im hx hb hlocks hr hP hD hS (Nat.le_of_ble_eq_true rfl) (Nat.le_of_ble_eq_true rfl) dX7_read_69
    replace h := ht
    refine lv_if_eq (tgt := 38) hx hb dX7_read_26 (by decide) (fun c13 => ?_) (fun c13 => ?_)
    · replace h := ifp c13 h
      refine lv_iconst (v := 1) hx hb dX7_read_38 (by decide) ?_
      refine lv_goto (tgt := 58) hx hb dX7_read_39 (by decide) ?_
      cases h
      exact K12 _ _ _ hP hD hS (lv_sub hl [1] rfl)
    · replace h := ifn c13 h
      refine lv_aload_n hx hb dX7_read_29 rfl (lv_at hl 1 rfl) ?_
      replace h := bd h
      obtain ⟨_, q14, h⟩ := h
      replace h := bd h
      obtain ⟨x16, q15, h⟩ := h
      refine c_X7_valuesRead ⟨hx, hb, hml, hown, hts⟩ hl.1 hK hP hS wd_1032 ⟨(Nat.le_of_ble_eq_true rfl), (Nat.le_of_ble_eq_true rfl)⟩ q15 q14 (Nat.le_of_ble_eq_true rfl) dX7_read_30 ⟨(Nat.le_of_ble_eq_true rfl), (Nat.le_of_ble_eq_true rfl)⟩ (fun H locs hP hS => ?_)
      refine lv_bipush (v := 24) hx hb dX7_read_33 (by decide) ?_
      refine lv_icmp_le (tgt := 42) hx hb dX7_read_35 (by decide) (fun c17 => ?_) (fun c17 => ?_)
      · replace h := ifp c17 h
        refine lv_aload_n hx hb dX7_read_42 rfl (lv_at hl 1 rfl) ?_
        replace h := bd h
        obtain ⟨x18, q19, h⟩ := h
        refine fg_6_0 hx hb hts hown hK hP wd_887 q19 dX7_read_43 ?_
        refine lv_iconst (v := 2) hx hb dX7_read_46 (by decide) ?_
        replace h := bd h
        obtain ⟨x20, q21, h⟩ := h
        refine r_aI hx hb hK hP q21 dX7_read_47 ?_
        refine lv_bipush (v := 8) hx hb dX7_read_48 (by decide) ?_
        refine lv_icmp_ne (tgt := 57) hx hb dX7_read_50 (by decide) (fun c22 => ?_) (fun c22 => ?_)
        · replace h := ifn c22 h
          refine lv_iconst (v := 0) hx hb dX7_read_57 (by decide) ?_
          cases h
          exact K12 _ _ _ hP hD hS (lv_sub hl [1] rfl)
        · replace h := ifp c22 h
          refine lv_iconst (v := 2) hx hb dX7_read_53 (by decide) ?_
          refine lv_goto (tgt := 58) hx hb dX7_read_54 (by decide) ?_
          cases h
          exact K12 _ _ _ hP hD hS (lv_sub hl [1] rfl)
      · replace h := ifn c17 h
        refine lv_iconst (v := 1) hx hb dX7_read_38 (by decide) ?_
        refine lv_goto (tgt := 58) hx hb dX7_read_39 (by decide) ?_
        cases h
        exact K12 _ _ _ hP hD hS (lv_sub hl [1] rfl)
  replace h := ht
  refine lv_icmp_ne (tgt := 22) hx hb dX7_read_8 (by decide) (fun c7 => ?_) (fun c7 => ?_)
  · replace h := ifn c7 h
    refine lv_iconst (v := 0) hx hb dX7_read_22 (by decide) ?_
    cases h
    exact K6 _ _ _ hP hD hS (lv_sub hl [0] rfl)
  · replace h := ifp c7 h
    refine lv_aload_n hx hb dX7_read_11 rfl (lv_at hl 0 rfl) ?_
    replace h := bd h
    obtain ⟨_, q8, h⟩ := h
    replace h := bd h
    obtain ⟨x10, q9, h⟩ := h
    refine c_X7_isEnded ⟨hx, hb, hml, hown, hts⟩ hl.1 hK hP hS wd_1024 ⟨(Nat.le_of_ble_eq_true rfl), (Nat.le_of_ble_eq_true rfl)⟩ q9 q8 (Nat.le_of_ble_eq_true rfl) dX7_read_12 ⟨(Nat.le_of_ble_eq_true rfl), (Nat.le_of_ble_eq_true rfl)⟩ (fun H locs hP hS => ?_)
    refine lv_if_eq (tgt := 22) hx hb dX7_read_15 (by decide) (fun c11 => ?_) (fun c11 => ?_)
    · replace h := ifp c11 h
      refine lv_iconst (v := 0) hx hb dX7_read_22 (by decide) ?_
      cases h
      exact K6 _ _ _ hP hD hS (lv_sub hl [0] rfl)
    · replace h := ifn c11 h
      refine lv_iconst (v := 1) hx hb dX7_read_18 (by decide) ?_
      refine lv_goto (tgt := 23) hx hb dX7_read_19 (by decide) ?_
      cases h
      exact K6 _ _ _ hP hD hS (lv_sub hl [0] rfl)
set_option maxRecDepth 100000 in
theorem c_X7_read {p : Program} {l : Launch} {e : Env} {R : Room} {s : State} {m : MethodId} {args : Array Value} {below : List Frame} {meth : Method} {c : Code} {H : Heap} {locs : List Loc} {cells slots : Nat} {Q : State → Prop} {cc : ByteArray} {pc index nL : Nat} {ls : Array Slot} {rest : List Value} {D : va_G} {cy : Nat → ClassId} {A0 : Nat → Prop} {S : St} {H0 : Heap} {own : String} {u : Unit} {a0 : Nat} {r : Int32} {S1 : St}  (hF : CallFix p m c cc nL s args ALLW own) (hsz : ls.size = nL) (hK : va_K D vwCl (tyL cy) s) (hP : SP D cy S H) (hD : ∀ a, S a ≠ none → A0 a) (hA : ∀ q, H0.size ≤ q → A0 q) (hS : va_S A0 H0 H locs) (hk : Cond.methodLink own index yX7_read ∈ ALLW) (hR : rm_X7_read.frames + 1 ≤ R.frames ∧ 8 + (5 + 11) + rm_X7_read.locals ≤ R.locals) (h : f_X7_read S a0 = some (r, S1)) (hc : oO S a0 6 = some u) (hW : (rest.map fun v => v.category).sum ≤ 8) (hdg : decode cc pc = .ok (.invokevirtual index, 3)) (hf : cells + 0 ≤ R.cells ∧ slots + 0 ≤ R.slots)
    (kk : ∀ (H1 : Heap) (locs1 : List Loc), SP D cy S1 H1 → (∀ a, S1 a ≠ none → A0 a) → va_S A0 H0 H1 locs1 → W p l e R s m args below meth c H1 locs1 (cells + 0) (slots + 0) Q (F0 m (pc + 3) ls (.int r :: rest))) : W p l e R s m args below meth c H locs cells slots Q (F0 m pc ls (.ref a0 :: rest)) := by
  exact k_iVm (As := []) hF hsz (m_X7_read l D cy H.size S a0 r S1 h) (cwV_of (n := 0) hF.2.2.2.2 hk wd_1013 wd_1014 wd_75 wd_1015 rfl rfl (by decide +kernel) hR) rfl hK hP hD hA hS (ci := 6) hc rfl hW rfl hdg hf kk
/-- VowBlocksModel.isBlock(I)Z -/
def f_X7_isBlock (S : St) (a0 : Nat) (a1 : Int32) : Option (Int32) :=
  (gR S a0 6 0).bind fun x1 =>
  (aI S x1 2).bind fun x3 =>
  (f_X7_within a1 0 (x3 - 1)).bind fun x6 =>
  (zz x6).bind fun _ =>
  some x6
abbrev rm_X7_isBlock : Room := { frames := 1, cells := 0, slots := 0, locals := 22 }
set_option maxHeartbeats 4000000 in
set_option maxRecDepth 100000 in
theorem m_X7_isBlock (l : Launch) (D : va_G) (cy : Nat → ClassId) (S : St) (a0 : Nat) (a1 : Int32) (r : Int32) (h : f_X7_isBlock S a0 a1 = some r) : Met l yX7_isBlock (wsA yX7_isBlock cX7_isBlock 2 (some .boolean)) rm_X7_isBlock (va_Pc [.ref a0, .int a1] (PS D cy S)) (va_Qi (fun r' (_ : Unit) => r' = r) (fun _ _ => True) noA) 0 0 noA := by
  refine Met.ofW (cc := cX7_isBlock) (maxL := 2) (ret := (some .boolean)) (by decide) rfl ?_
  intro p e s m args below meth c s₁ B hml hv
  obtain ⟨rfl, hP, hK⟩ := hv
  have hx := B.exec
  have hb := B.bytes
  have hr := B.returns
  have hts9 := atoms_spec (ws := wsA yX7_isBlock cX7_isBlock 2 (some .boolean)) B.pre
  have hts : ∀ w ∈ ALLW, w.before _ s = true := fun w h => hts9 w (List.mem_cons_of_mem _ h)
  have hown : s.vm.findClass RX7 = some m.cls := findClass_of_methodNamed B.named
  have hlocks := B.notSynchronized
  have hS : va_S noA s.heap s.heap [] := va_S.rf
  have hl := lv_entry [.ref a0, .int a1] (n := 2) (Nat.le_of_ble_eq_true rfl)
  rw [lg_entry_eq]
  generalize (lg_sl [.ref a0, .int a1] ++ List.replicate (2 - (lg_sl [.ref a0, .int a1]).length) Slot.unset).toArray = ls at hl ⊢
  have hl : lv_has ls 2 [(0, .ref a0), (1, .int a1)] := hl
  rw [f_X7_isBlock] at h
  refine lv_iload_n hx hb dX7_isBlock_0 rfl (lv_at hl 1 rfl) ?_
  refine lv_iconst (v := 0) hx hb dX7_isBlock_1 (by decide) ?_
  refine lv_aload_n hx hb dX7_isBlock_2 rfl (lv_at hl 0 rfl) ?_
  replace h := bd h
  obtain ⟨x1, q2, h⟩ := h
  refine fg_6_0 hx hb hts hown hK hP wd_887 q2 dX7_isBlock_3 ?_
  refine lv_iconst (v := 2) hx hb dX7_isBlock_6 (by decide) ?_
  replace h := bd h
  obtain ⟨x3, q4, h⟩ := h
  refine r_aI hx hb hK hP q4 dX7_isBlock_7 ?_
  refine lv_iconst (v := 1) hx hb dX7_isBlock_8 (by decide) ?_
  refine lv_isub hx hb dX7_isBlock_9 ?_
  replace h := bd h
  obtain ⟨x6, q5, h⟩ := h
  refine c_X7_within ⟨hx, hb, hml, hown, hts⟩ hl.1 hK hP hS wd_938 ⟨(Nat.le_of_ble_eq_true rfl), (Nat.le_of_ble_eq_true rfl)⟩ q5 (Nat.le_of_ble_eq_true rfl) dX7_isBlock_10 ⟨(Nat.le_of_ble_eq_true rfl), (Nat.le_of_ble_eq_true rfl)⟩ (fun H locs hP hS => ?_)
  replace h := bd h
  obtain ⟨_, q7, h⟩ := h
  cases h
  exact e_zp hx hb hlocks (zz_spec q7) hr hS (Nat.le_of_ble_eq_true rfl) (Nat.le_of_ble_eq_true rfl) dX7_isBlock_13
set_option maxRecDepth 100000 in
theorem c_X7_isBlock {p : Program} {l : Launch} {e : Env} {R : Room} {s : State} {m : MethodId} {args : Array Value} {below : List Frame} {meth : Method} {c : Code} {H : Heap} {locs : List Loc} {cells slots : Nat} {Q : State → Prop} {cc : ByteArray} {pc index nL : Nat} {ls : Array Slot} {rest : List Value} {D : va_G} {cy : Nat → ClassId} {A0 : Nat → Prop} {S : St} {H0 : Heap} {own : String} {u : Unit} {a0 : Nat} {a1 : Int32} {r : Int32}  (hF : CallFix p m c cc nL s args ALLW own) (hsz : ls.size = nL) (hK : va_K D vwCl (tyL cy) s) (hP : SP D cy S H) (hS : va_S A0 H0 H locs) (hk : Cond.methodLink own index yX7_isBlock ∈ ALLW) (hR : rm_X7_isBlock.frames + 1 ≤ R.frames ∧ 8 + (2 + 11) + rm_X7_isBlock.locals ≤ R.locals) (h : f_X7_isBlock S a0 a1 = some r) (hc : oO S a0 6 = some u) (hW : (rest.map fun v => v.category).sum ≤ 8) (hdg : decode cc pc = .ok (.invokevirtual index, 3)) (hf : cells + 0 ≤ R.cells ∧ slots + 0 ≤ R.slots)
    (kk : ∀ (H1 : Heap) (locs1 : List Loc), SP D cy S H1 → va_S A0 H0 H1 locs1 → W p l e R s m args below meth c H1 locs1 (cells + 0) (slots + 0) Q (F0 m (pc + 3) ls (.int r :: rest))) : W p l e R s m args below meth c H locs cells slots Q (F0 m pc ls (.int a1 :: .ref a0 :: rest)) := by
  exact k_iVp (As := [.int a1]) hF hsz (m_X7_isBlock l D cy S a0 a1 r h) (cwV_of (n := 1) hF.2.2.2.2 hk wd_1046 wd_42 wd_75 wd_1047 rfl rfl (by decide +kernel) hR) rfl hK hP hS (ci := 6) hc rfl hW rfl hdg hf kk
/-- VowBlocksModel.add(II)I -/
def f_X7_add (S : St) (a0 : Nat) (a1 : Int32) (a2 : Int32) : Option (Int32 × St) :=
  (oO S a0 6).bind fun _ =>
  (f_X7_isBlock S a0 a1).bind fun x3 =>
  (
    if x3 = 0 then
      some 1
    else
      (f_X7_isValue a2).bind fun x7 =>
      if x7 = 0 then
        some 2
      else
        (oO S a0 6).bind fun _ =>
        (f_X7_of S a0 a1 0).bind fun x11 =>
        if x11 = 24 then
          some 3
        else
          some 0
  : Option (Int32)).bind fun t4 =>
  (pI S a0 6 5 t4).bind fun Z13 =>
  (gI Z13 a0 6 5).bind fun x15 =>
  if x15 ≤ 0 then
    (oO Z13 a0 6).bind fun _ =>
    (f_X7_save Z13 a0).bind fun z20 =>
    (oO z20 a0 6).bind fun _ =>
    (f_X7_of z20 a0 a1 0).bind fun x23 =>
    (oO z20 a0 6).bind fun _ =>
    (f_X7_setOf z20 a0 a1 (8 + x23) a2).bind fun z26 =>
    (oO z26 a0 6).bind fun _ =>
    (f_X7_of z26 a0 a1 0).bind fun x29 =>
    (oO z26 a0 6).bind fun _ =>
    (f_X7_setOf z26 a0 a1 0 (x29 + 1)).bind fun z32 =>
    (oO z32 a0 6).bind fun _ =>
    (f_X7_of z32 a0 a1 0).bind fun x35 =>
    some (x35, z32)
  else
    some (0, Z13)
abbrev rm_X7_add : Room := { frames := 2, cells := 0, slots := 0, locals := 43 }
set_option maxHeartbeats 4000000 in
set_option maxRecDepth 100000 in
theorem m_X7_add (l : Launch) (D : va_G) (cy : Nat → ClassId) (sz : Nat) (S : St) (a0 : Nat) (a1 : Int32) (a2 : Int32) (r : Int32) (S1 : St) (h : f_X7_add S a0 a1 a2 = some (r, S1)) : Met l yX7_add (wsA yX7_add cX7_add 3 (some .int)) rm_X7_add (va_Pc [.ref a0, .int a1, .int a2] (PN D cy S sz)) (va_Qi (fun r' (_ : Unit) => r' = r) (fun _ t => PoS D cy S1 (dm S sz) t) (dm S sz)) 0 0 (dm S sz) := by
  refine Met.ofW (cc := cX7_add) (maxL := 3) (ret := (some .int)) (by decide) rfl ?_
  intro p e s m args below meth c s₁ B hml hv
  obtain ⟨rfl, hsz, hP, hK⟩ := hv
  have hx := B.exec
  have hb := B.bytes
  have hr := B.returns
  have hts9 := atoms_spec (ws := wsA yX7_add cX7_add 3 (some .int)) B.pre
  have hts : ∀ w ∈ ALLW, w.before _ s = true := fun w h => hts9 w (List.mem_cons_of_mem _ h)
  have hown : s.vm.findClass RX7 = some m.cls := findClass_of_methodNamed B.named
  have hlocks := B.notSynchronized
  subst hsz
  have hD : ∀ a, S a ≠ none → dm S s.heap.size a := fun a h => Or.inl h
  have hA : ∀ q : Nat, s.heap.size ≤ q → dm S s.heap.size q := fun q h => Or.inr h
  have hS : va_S (dm S s.heap.size) s.heap s.heap [] := va_S.rf
  have hl := lv_entry [.ref a0, .int a1, .int a2] (n := 3) (Nat.le_of_ble_eq_true rfl)
  rw [lg_entry_eq]
  generalize (lg_sl [.ref a0, .int a1, .int a2] ++ List.replicate (3 - (lg_sl [.ref a0, .int a1, .int a2]).length) Slot.unset).toArray = ls at hl ⊢
  have hl : lv_has ls 3 [(0, .ref a0), (1, .int a1), (2, .int a2)] := hl
  rw [f_X7_add] at h
  refine lv_aload_n hx hb dX7_add_0 rfl (lv_at hl 0 rfl) ?_
  refine lv_aload_n hx hb dX7_add_1 rfl (lv_at hl 0 rfl) ?_
  refine lv_iload_n hx hb dX7_add_2 rfl (lv_at hl 1 rfl) ?_
  replace h := bd h
  obtain ⟨_, q1, h⟩ := h
  replace h := bd h
  obtain ⟨x3, q2, h⟩ := h
  refine c_X7_isBlock ⟨hx, hb, hml, hown, hts⟩ hl.1 hK hP hS wd_1044 ⟨(Nat.le_of_ble_eq_true rfl), (Nat.le_of_ble_eq_true rfl)⟩ q2 q1 (Nat.le_of_ble_eq_true rfl) dX7_add_3 ⟨(Nat.le_of_ble_eq_true rfl), (Nat.le_of_ble_eq_true rfl)⟩ (fun H locs hP hS => ?_)
  replace h := bd h
  obtain ⟨t4, ht, h⟩ := h
  have K4 : ∀ (H : Heap) (locs : List Loc) (ls : Array Slot), SP D cy S H → (∀ a, S a ≠ none → (dm S s.heap.size) a) → va_S (dm S s.heap.size) s.heap H locs → lv_has ls 3 [(0, .ref a0), (1, .int a1), (2, .int a2)] → W p l e rm_X7_add s m ([.ref a0, .int a1, .int a2] : List Value).toArray below meth c H locs 0 0 (MQ below (va_Qi (fun r' (_ : Unit) => r' = r) (fun _ t => PoS D cy S1 (dm S s.heap.size) t) (dm S s.heap.size)) ([.ref a0, .int a1, .int a2] : List Value).toArray s 0 0 (dm S s.heap.size)) (F0 m 40 ls [.int t4, .ref a0]) := by
    intro H locs ls hP hD hS hl
    replace h := bd h
    obtain ⟨Z13, q14, h⟩ := h
    refine fp_6_5 hx hb hts hown hK hP hD hS wd_892 q14 dX7_add_40 (fun H locs hz9 hP hD hS => ?_)
    refine lv_aload_n hx hb dX7_add_43 rfl (lv_at hl 0 rfl) ?_
    replace h := bd h
    obtain ⟨x15, q16, h⟩ := h
    refine fg_6_5 hx hb hts hown hK hP wd_892 q16 dX7_add_44 ?_
    refine lv_if_le (tgt := 52) hx hb dX7_add_47 (by decide) (fun c17 => ?_) (fun c17 => ?_)
    · replace h := ifp c17 h
      refine lv_aload_n hx hb dX7_add_52 rfl (lv_at hl 0 rfl) ?_
      replace h := bd h
      obtain ⟨_, q18, h⟩ := h
      replace h := bd h
      obtain ⟨z20, q19, h⟩ := h
      refine c_X7_save ⟨hx, hb, hml, hown, hts⟩ hl.1 hK hP hD hA hS wd_941 ⟨(Nat.le_of_ble_eq_true rfl), (Nat.le_of_ble_eq_true rfl)⟩ q19 q18 (Nat.le_of_ble_eq_true rfl) dX7_add_53 ⟨(Nat.le_of_ble_eq_true rfl), (Nat.le_of_ble_eq_true rfl)⟩ (fun H locs hP hD hS => ?_)
      refine lv_aload_n hx hb dX7_add_56 rfl (lv_at hl 0 rfl) ?_
      refine lv_iload_n hx hb dX7_add_57 rfl (lv_at hl 1 rfl) ?_
      refine lv_bipush (v := 8) hx hb dX7_add_58 (by decide) ?_
      refine lv_aload_n hx hb dX7_add_60 rfl (lv_at hl 0 rfl) ?_
      refine lv_iload_n hx hb dX7_add_61 rfl (lv_at hl 1 rfl) ?_
      refine lv_iconst (v := 0) hx hb dX7_add_62 (by decide) ?_
      replace h := bd h
      obtain ⟨_, q21, h⟩ := h
      replace h := bd h
      obtain ⟨x23, q22, h⟩ := h
      refine c_X7_of ⟨hx, hb, hml, hown, hts⟩ hl.1 hK hP hS wd_961 ⟨(Nat.le_of_ble_eq_true rfl), (Nat.le_of_ble_eq_true rfl)⟩ q22 q21 (Nat.le_of_ble_eq_true rfl) dX7_add_63 ⟨(Nat.le_of_ble_eq_true rfl), (Nat.le_of_ble_eq_true rfl)⟩ (fun H locs hP hS => ?_)
      refine lv_iadd hx hb dX7_add_66 ?_
      refine lv_iload_n hx hb dX7_add_67 rfl (lv_at hl 2 rfl) ?_
      replace h := bd h
      obtain ⟨_, q24, h⟩ := h
      replace h := bd h
      obtain ⟨z26, q25, h⟩ := h
      refine c_X7_setOf ⟨hx, hb, hml, hown, hts⟩ hl.1 hK hP hD hA hS wd_949 ⟨(Nat.le_of_ble_eq_true rfl), (Nat.le_of_ble_eq_true rfl)⟩ q25 q24 (Nat.le_of_ble_eq_true rfl) dX7_add_68 ⟨(Nat.le_of_ble_eq_true rfl), (Nat.le_of_ble_eq_true rfl)⟩ (fun H locs hP hD hS => ?_)
      refine lv_aload_n hx hb dX7_add_71 rfl (lv_at hl 0 rfl) ?_
      refine lv_iload_n hx hb dX7_add_72 rfl (lv_at hl 1 rfl) ?_
      refine lv_iconst (v := 0) hx hb dX7_add_73 (by decide) ?_
      refine lv_aload_n hx hb dX7_add_74 rfl (lv_at hl 0 rfl) ?_
      refine lv_iload_n hx hb dX7_add_75 rfl (lv_at hl 1 rfl) ?_
      refine lv_iconst (v := 0) hx hb dX7_add_76 (by decide) ?_
      replace h := bd h
      obtain ⟨_, q27, h⟩ := h
      replace h := bd h
      obtain ⟨x29, q28, h⟩ := h
      refine c_X7_of ⟨hx, hb, hml, hown, hts⟩ hl.1 hK hP hS wd_961 ⟨(Nat.le_of_ble_eq_true rfl), (Nat.le_of_ble_eq_true rfl)⟩ q28 q27 (Nat.le_of_ble_eq_true rfl) dX7_add_77 ⟨(Nat.le_of_ble_eq_true rfl), (Nat.le_of_ble_eq_true rfl)⟩ (fun H locs hP hS => ?_)
      refine lv_iconst (v := 1) hx hb dX7_add_80 (by decide) ?_
      refine lv_iadd hx hb dX7_add_81 ?_
      replace h := bd h
      obtain ⟨_, q30, h⟩ := h
      replace h := bd h
      obtain ⟨z32, q31, h⟩ := h
      refine c_X7_setOf ⟨hx, hb, hml, hown, hts⟩ hl.1 hK hP hD hA hS wd_949 ⟨(Nat.le_of_ble_eq_true rfl), (Nat.le_of_ble_eq_true rfl)⟩ q31 q30 (Nat.le_of_ble_eq_true rfl) dX7_add_82 ⟨(Nat.le_of_ble_eq_true rfl), (Nat.le_of_ble_eq_true rfl)⟩ (fun H locs hP hD hS => ?_)
      refine lv_aload_n hx hb dX7_add_85 rfl (lv_at hl 0 rfl) ?_
      refine lv_iload_n hx hb dX7_add_86 rfl (lv_at hl 1 rfl) ?_
      refine lv_iconst (v := 0) hx hb dX7_add_87 (by decide) ?_
      replace h := bd h
      obtain ⟨_, q33, h⟩ := h
      replace h := bd h
      obtain ⟨x35, q34, h⟩ := h
      refine c_X7_of ⟨hx, hb, hml, hown, hts⟩ hl.1 hK hP hS wd_961 ⟨(Nat.le_of_ble_eq_true rfl), (Nat.le_of_ble_eq_true rfl)⟩ q34 q33 (Nat.le_of_ble_eq_true rfl) dX7_add_88 ⟨(Nat.le_of_ble_eq_true rfl), (Nat.le_of_ble_eq_true rfl)⟩ (fun H locs hP hS => ?_)
      cases h
      exact e_im hx hb hlocks hr hP hD hS (Nat.le_of_ble_eq_true rfl) (Nat.le_of_ble_eq_true rfl) dX7_add_91
    · replace h := ifn c17 h
      refine lv_iconst (v := 0) hx hb dX7_add_50 (by decide) ?_
      cases h
      exact e_im hx hb hlocks hr hP hD hS (Nat.le_of_ble_eq_true rfl) (Nat.le_of_ble_eq_true rfl) dX7_add_51
  replace h := ht
  refine lv_if_ne (tgt := 13) hx hb dX7_add_6 (by decide) (fun c5 => ?_) (fun c5 => ?_)
  · replace h := ifn c5 h
    refine lv_iload_n hx hb dX7_add_13 rfl (lv_at hl 2 rfl) ?_
    replace h := bd h
    obtain ⟨x7, q6, h⟩ := h
    refine c_X7_isValue ⟨hx, hb, hml, hown, hts⟩ hl.1 hK hP hS wd_935 ⟨(Nat.le_of_ble_eq_true rfl), (Nat.le_of_ble_eq_true rfl)⟩ q6 (Nat.le_of_ble_eq_true rfl) dX7_add_14 ⟨(Nat.le_of_ble_eq_true rfl), (Nat.le_of_ble_eq_true rfl)⟩ (fun H locs hP hS => ?_)
    refine lv_if_ne (tgt := 24) hx hb dX7_add_17 (by decide) (fun c8 => ?_) (fun c8 => ?_)
    · replace h := ifn c8 h
      refine lv_aload_n hx hb dX7_add_24 rfl (lv_at hl 0 rfl) ?_
      refine lv_iload_n hx hb dX7_add_25 rfl (lv_at hl 1 rfl) ?_
      refine lv_iconst (v := 0) hx hb dX7_add_26 (by decide) ?_
      replace h := bd h
      obtain ⟨_, q9, h⟩ := h
      replace h := bd h
      obtain ⟨x11, q10, h⟩ := h
      refine c_X7_of ⟨hx, hb, hml, hown, hts⟩ hl.1 hK hP hS wd_961 ⟨(Nat.le_of_ble_eq_true rfl), (Nat.le_of_ble_eq_true rfl)⟩ q10 q9 (Nat.le_of_ble_eq_true rfl) dX7_add_27 ⟨(Nat.le_of_ble_eq_true rfl), (Nat.le_of_ble_eq_true rfl)⟩ (fun H locs hP hS => ?_)
      refine lv_bipush (v := 24) hx hb dX7_add_30 (by decide) ?_
      refine lv_icmp_ne (tgt := 39) hx hb dX7_add_32 (by decide) (fun c12 => ?_) (fun c12 => ?_)
      · replace h := ifn c12 h
        refine lv_iconst (v := 0) hx hb dX7_add_39 (by decide) ?_
        cases h
        exact K4 _ _ _ hP hD hS (lv_sub hl [0, 1, 2] rfl)
      · replace h := ifp c12 h
        refine lv_iconst (v := 3) hx hb dX7_add_35 (by decide) ?_
        refine lv_goto (tgt := 40) hx hb dX7_add_36 (by decide) ?_
        cases h
        exact K4 _ _ _ hP hD hS (lv_sub hl [0, 1, 2] rfl)
    · replace h := ifp c8 h
      refine lv_iconst (v := 2) hx hb dX7_add_20 (by decide) ?_
      refine lv_goto (tgt := 40) hx hb dX7_add_21 (by decide) ?_
      cases h
      exact K4 _ _ _ hP hD hS (lv_sub hl [0, 1, 2] rfl)
  · replace h := ifp c5 h
    refine lv_iconst (v := 1) hx hb dX7_add_9 (by decide) ?_
    refine lv_goto (tgt := 40) hx hb dX7_add_10 (by decide) ?_
    cases h
    exact K4 _ _ _ hP hD hS (lv_sub hl [0, 1, 2] rfl)
set_option maxRecDepth 100000 in
theorem c_X7_add {p : Program} {l : Launch} {e : Env} {R : Room} {s : State} {m : MethodId} {args : Array Value} {below : List Frame} {meth : Method} {c : Code} {H : Heap} {locs : List Loc} {cells slots : Nat} {Q : State → Prop} {cc : ByteArray} {pc index nL : Nat} {ls : Array Slot} {rest : List Value} {D : va_G} {cy : Nat → ClassId} {A0 : Nat → Prop} {S : St} {H0 : Heap} {own : String} {u : Unit} {a0 : Nat} {a1 : Int32} {a2 : Int32} {r : Int32} {S1 : St}  (hF : CallFix p m c cc nL s args ALLW own) (hsz : ls.size = nL) (hK : va_K D vwCl (tyL cy) s) (hP : SP D cy S H) (hD : ∀ a, S a ≠ none → A0 a) (hA : ∀ q, H0.size ≤ q → A0 q) (hS : va_S A0 H0 H locs) (hk : Cond.methodLink own index yX7_add ∈ ALLW) (hR : rm_X7_add.frames + 1 ≤ R.frames ∧ 8 + (3 + 11) + rm_X7_add.locals ≤ R.locals) (h : f_X7_add S a0 a1 a2 = some (r, S1)) (hc : oO S a0 6 = some u) (hW : (rest.map fun v => v.category).sum ≤ 8) (hdg : decode cc pc = .ok (.invokevirtual index, 3)) (hf : cells + 0 ≤ R.cells ∧ slots + 0 ≤ R.slots)
    (kk : ∀ (H1 : Heap) (locs1 : List Loc), SP D cy S1 H1 → (∀ a, S1 a ≠ none → A0 a) → va_S A0 H0 H1 locs1 → W p l e R s m args below meth c H1 locs1 (cells + 0) (slots + 0) Q (F0 m (pc + 3) ls (.int r :: rest))) : W p l e R s m args below meth c H locs cells slots Q (F0 m pc ls (.int a2 :: .int a1 :: .ref a0 :: rest)) := by
  exact k_iVm (As := [.int a1, .int a2]) hF hsz (m_X7_add l D cy H.size S a0 a1 a2 r S1 h) (cwV_of (n := 2) hF.2.2.2.2 hk wd_1041 wd_1042 wd_75 wd_1043 rfl rfl (by decide +kernel) hR) rfl hK hP hD hA hS (ci := 6) hc rfl hW rfl hdg hf kk
/-- VowBlocksModel.isPlace(II)Z -/
def f_X7_isPlace (S : St) (a0 : Nat) (a1 : Int32) (a2 : Int32) : Option (Int32) :=
  (oO S a0 6).bind fun _ =>
  (f_X7_isBlock S a0 a1).bind fun x3 =>
  (
    if x3 = 0 then
      some 0
    else
      (oO S a0 6).bind fun _ =>
      (f_X7_of S a0 a1 0).bind fun x8 =>
      (f_X7_within a2 0 (x8 - 1)).bind fun x10 =>
      if x10 = 0 then
        some 0
      else
        some 1
  : Option (Int32)).bind fun t4 =>
  (zz t4).bind fun _ =>
  some t4
abbrev rm_X7_isPlace : Room := { frames := 2, cells := 0, slots := 0, locals := 43 }
set_option maxHeartbeats 4000000 in
set_option maxRecDepth 100000 in
theorem m_X7_isPlace (l : Launch) (D : va_G) (cy : Nat → ClassId) (S : St) (a0 : Nat) (a1 : Int32) (a2 : Int32) (r : Int32) (h : f_X7_isPlace S a0 a1 a2 = some r) : Met l yX7_isPlace (wsA yX7_isPlace cX7_isPlace 3 (some .boolean)) rm_X7_isPlace (va_Pc [.ref a0, .int a1, .int a2] (PS D cy S)) (va_Qi (fun r' (_ : Unit) => r' = r) (fun _ _ => True) noA) 0 0 noA := by
  refine Met.ofW (cc := cX7_isPlace) (maxL := 3) (ret := (some .boolean)) (by decide) rfl ?_
  intro p e s m args below meth c s₁ B hml hv
  obtain ⟨rfl, hP, hK⟩ := hv
  have hx := B.exec
  have hb := B.bytes
  have hr := B.returns
  have hts9 := atoms_spec (ws := wsA yX7_isPlace cX7_isPlace 3 (some .boolean)) B.pre
  have hts : ∀ w ∈ ALLW, w.before _ s = true := fun w h => hts9 w (List.mem_cons_of_mem _ h)
  have hown : s.vm.findClass RX7 = some m.cls := findClass_of_methodNamed B.named
  have hlocks := B.notSynchronized
  have hS : va_S noA s.heap s.heap [] := va_S.rf
  have hl := lv_entry [.ref a0, .int a1, .int a2] (n := 3) (Nat.le_of_ble_eq_true rfl)
  rw [lg_entry_eq]
  generalize (lg_sl [.ref a0, .int a1, .int a2] ++ List.replicate (3 - (lg_sl [.ref a0, .int a1, .int a2]).length) Slot.unset).toArray = ls at hl ⊢
  have hl : lv_has ls 3 [(0, .ref a0), (1, .int a1), (2, .int a2)] := hl
  rw [f_X7_isPlace] at h
  refine lv_aload_n hx hb dX7_isPlace_0 rfl (lv_at hl 0 rfl) ?_
  refine lv_iload_n hx hb dX7_isPlace_1 rfl (lv_at hl 1 rfl) ?_
  replace h := bd h
  obtain ⟨_, q1, h⟩ := h
  replace h := bd h
  obtain ⟨x3, q2, h⟩ := h
  refine c_X7_isBlock ⟨hx, hb, hml, hown, hts⟩ hl.1 hK hP hS wd_1044 ⟨(Nat.le_of_ble_eq_true rfl), (Nat.le_of_ble_eq_true rfl)⟩ q2 q1 (Nat.le_of_ble_eq_true rfl) dX7_isPlace_2 ⟨(Nat.le_of_ble_eq_true rfl), (Nat.le_of_ble_eq_true rfl)⟩ (fun H locs hP hS => ?_)
  replace h := bd h
  obtain ⟨t4, ht, h⟩ := h
  have K4 : ∀ (H : Heap) (locs : List Loc) (ls : Array Slot), SP D cy S H → va_S noA s.heap H locs → lv_has ls 3 [] → W p l e rm_X7_isPlace s m ([.ref a0, .int a1, .int a2] : List Value).toArray below meth c H locs 0 0 (MQ below (va_Qi (fun r' (_ : Unit) => r' = r) (fun _ _ => True) noA) ([.ref a0, .int a1, .int a2] : List Value).toArray s 0 0 noA) (F0 m 29 ls [.int t4]) := by
    intro H locs ls hP hS hl
    replace h := bd h
    obtain ⟨_, q12, h⟩ := h
    cases h
    exact e_zp hx hb hlocks (zz_spec q12) hr hS (Nat.le_of_ble_eq_true rfl) (Nat.le_of_ble_eq_true rfl) dX7_isPlace_29
  replace h := ht
  refine lv_if_eq (tgt := 28) hx hb dX7_isPlace_5 (by decide) (fun c5 => ?_) (fun c5 => ?_)
  · replace h := ifp c5 h
    refine lv_iconst (v := 0) hx hb dX7_isPlace_28 (by decide) ?_
    cases h
    exact K4 _ _ _ hP hS (lv_sub hl [] rfl)
  · replace h := ifn c5 h
    refine lv_iload_n hx hb dX7_isPlace_8 rfl (lv_at hl 2 rfl) ?_
    refine lv_iconst (v := 0) hx hb dX7_isPlace_9 (by decide) ?_
    refine lv_aload_n hx hb dX7_isPlace_10 rfl (lv_at hl 0 rfl) ?_
    refine lv_iload_n hx hb dX7_isPlace_11 rfl (lv_at hl 1 rfl) ?_
    refine lv_iconst (v := 0) hx hb dX7_isPlace_12 (by decide) ?_
    replace h := bd h
    obtain ⟨_, q6, h⟩ := h
    replace h := bd h
    obtain ⟨x8, q7, h⟩ := h
    refine c_X7_of ⟨hx, hb, hml, hown, hts⟩ hl.1 hK hP hS wd_961 ⟨(Nat.le_of_ble_eq_true rfl), (Nat.le_of_ble_eq_true rfl)⟩ q7 q6 (Nat.le_of_ble_eq_true rfl) dX7_isPlace_13 ⟨(Nat.le_of_ble_eq_true rfl), (Nat.le_of_ble_eq_true rfl)⟩ (fun H locs hP hS => ?_)
    refine lv_iconst (v := 1) hx hb dX7_isPlace_16 (by decide) ?_
    refine lv_isub hx hb dX7_isPlace_17 ?_
    replace h := bd h
    obtain ⟨x10, q9, h⟩ := h
    refine c_X7_within ⟨hx, hb, hml, hown, hts⟩ hl.1 hK hP hS wd_938 ⟨(Nat.le_of_ble_eq_true rfl), (Nat.le_of_ble_eq_true rfl)⟩ q9 (Nat.le_of_ble_eq_true rfl) dX7_isPlace_18 ⟨(Nat.le_of_ble_eq_true rfl), (Nat.le_of_ble_eq_true rfl)⟩ (fun H locs hP hS => ?_)
    refine lv_if_eq (tgt := 28) hx hb dX7_isPlace_21 (by decide) (fun c11 => ?_) (fun c11 => ?_)
    · replace h := ifp c11 h
      refine lv_iconst (v := 0) hx hb dX7_isPlace_28 (by decide) ?_
      cases h
      exact K4 _ _ _ hP hS (lv_sub hl [] rfl)
    · replace h := ifn c11 h
      refine lv_iconst (v := 1) hx hb dX7_isPlace_24 (by decide) ?_
      refine lv_goto (tgt := 29) hx hb dX7_isPlace_25 (by decide) ?_
      cases h
      exact K4 _ _ _ hP hS (lv_sub hl [] rfl)
set_option maxRecDepth 100000 in
theorem c_X7_isPlace {p : Program} {l : Launch} {e : Env} {R : Room} {s : State} {m : MethodId} {args : Array Value} {below : List Frame} {meth : Method} {c : Code} {H : Heap} {locs : List Loc} {cells slots : Nat} {Q : State → Prop} {cc : ByteArray} {pc index nL : Nat} {ls : Array Slot} {rest : List Value} {D : va_G} {cy : Nat → ClassId} {A0 : Nat → Prop} {S : St} {H0 : Heap} {own : String} {u : Unit} {a0 : Nat} {a1 : Int32} {a2 : Int32} {r : Int32}  (hF : CallFix p m c cc nL s args ALLW own) (hsz : ls.size = nL) (hK : va_K D vwCl (tyL cy) s) (hP : SP D cy S H) (hS : va_S A0 H0 H locs) (hk : Cond.methodLink own index yX7_isPlace ∈ ALLW) (hR : rm_X7_isPlace.frames + 1 ≤ R.frames ∧ 8 + (3 + 11) + rm_X7_isPlace.locals ≤ R.locals) (h : f_X7_isPlace S a0 a1 a2 = some r) (hc : oO S a0 6 = some u) (hW : (rest.map fun v => v.category).sum ≤ 8) (hdg : decode cc pc = .ok (.invokevirtual index, 3)) (hf : cells + 0 ≤ R.cells ∧ slots + 0 ≤ R.slots)
    (kk : ∀ (H1 : Heap) (locs1 : List Loc), SP D cy S H1 → va_S A0 H0 H1 locs1 → W p l e R s m args below meth c H1 locs1 (cells + 0) (slots + 0) Q (F0 m (pc + 3) ls (.int r :: rest))) : W p l e R s m args below meth c H locs cells slots Q (F0 m pc ls (.int a2 :: .int a1 :: .ref a0 :: rest)) := by
  exact k_iVp (As := [.int a1, .int a2]) hF hsz (m_X7_isPlace l D cy S a0 a1 a2 r h) (cwV_of (n := 2) hF.2.2.2.2 hk wd_1054 wd_43 wd_75 wd_1055 rfl rfl (by decide +kernel) hR) rfl hK hP hS (ci := 6) hc rfl hW rfl hdg hf kk
/-- VowBlocksModel.put(III)I -/
def f_X7_put (S : St) (a0 : Nat) (a1 : Int32) (a2 : Int32) (a3 : Int32) : Option (Int32 × St) :=
  (oO S a0 6).bind fun _ =>
  (f_X7_isPlace S a0 a1 a2).bind fun x3 =>
  (
    if x3 = 0 then
      some 1
    else
      (f_X7_isValue a3).bind fun x7 =>
      if x7 = 0 then
        some 2
      else
        some 0
  : Option (Int32)).bind fun t4 =>
  (pI S a0 6 5 t4).bind fun Z9 =>
  (gI Z9 a0 6 5).bind fun x11 =>
  if x11 ≤ 0 then
    (oO Z9 a0 6).bind fun _ =>
    (f_X7_save Z9 a0).bind fun z16 =>
    (oO z16 a0 6).bind fun _ =>
    (f_X7_of z16 a0 a1 (8 + a2)).bind fun x19 =>
    (oO z16 a0 6).bind fun _ =>
    (f_X7_setOf z16 a0 a1 (8 + a2) a3).bind fun z22 =>
    some (x19, z22)
  else
    some (0, Z9)
abbrev rm_X7_put : Room := { frames := 3, cells := 0, slots := 0, locals := 65 }
set_option maxHeartbeats 4000000 in
set_option maxRecDepth 100000 in
theorem m_X7_put (l : Launch) (D : va_G) (cy : Nat → ClassId) (sz : Nat) (S : St) (a0 : Nat) (a1 : Int32) (a2 : Int32) (a3 : Int32) (r : Int32) (S1 : St) (h : f_X7_put S a0 a1 a2 a3 = some (r, S1)) : Met l yX7_put (wsA yX7_put cX7_put 5 (some .int)) rm_X7_put (va_Pc [.ref a0, .int a1, .int a2, .int a3] (PN D cy S sz)) (va_Qi (fun r' (_ : Unit) => r' = r) (fun _ t => PoS D cy S1 (dm S sz) t) (dm S sz)) 0 0 (dm S sz) := by
  refine Met.ofW (cc := cX7_put) (maxL := 5) (ret := (some .int)) (by decide) rfl ?_
  intro p e s m args below meth c s₁ B hml hv
  obtain ⟨rfl, hsz, hP, hK⟩ := hv
  have hx := B.exec
  have hb := B.bytes
  have hr := B.returns
  have hts9 := atoms_spec (ws := wsA yX7_put cX7_put 5 (some .int)) B.pre
  have hts : ∀ w ∈ ALLW, w.before _ s = true := fun w h => hts9 w (List.mem_cons_of_mem _ h)
  have hown : s.vm.findClass RX7 = some m.cls := findClass_of_methodNamed B.named
  have hlocks := B.notSynchronized
  subst hsz
  have hD : ∀ a, S a ≠ none → dm S s.heap.size a := fun a h => Or.inl h
  have hA : ∀ q : Nat, s.heap.size ≤ q → dm S s.heap.size q := fun q h => Or.inr h
  have hS : va_S (dm S s.heap.size) s.heap s.heap [] := va_S.rf
  have hl := lv_entry [.ref a0, .int a1, .int a2, .int a3] (n := 5) (Nat.le_of_ble_eq_true rfl)
  rw [lg_entry_eq]
  generalize (lg_sl [.ref a0, .int a1, .int a2, .int a3] ++ List.replicate (5 - (lg_sl [.ref a0, .int a1, .int a2, .int a3]).length) Slot.unset).toArray = ls at hl ⊢
  have hl : lv_has ls 5 [(0, .ref a0), (1, .int a1), (2, .int a2), (3, .int a3)] := hl
  rw [f_X7_put] at h
  refine lv_aload_n hx hb dX7_put_0 rfl (lv_at hl 0 rfl) ?_
  refine lv_aload_n hx hb dX7_put_1 rfl (lv_at hl 0 rfl) ?_
  refine lv_iload_n hx hb dX7_put_2 rfl (lv_at hl 1 rfl) ?_
  refine lv_iload_n hx hb dX7_put_3 rfl (lv_at hl 2 rfl) ?_
  replace h := bd h
  obtain ⟨_, q1, h⟩ := h
  replace h := bd h
  obtain ⟨x3, q2, h⟩ := h
  refine c_X7_isPlace ⟨hx, hb, hml, hown, hts⟩ hl.1 hK hP hS wd_1052 ⟨(Nat.le_of_ble_eq_true rfl), (Nat.le_of_ble_eq_true rfl)⟩ q2 q1 (Nat.le_of_ble_eq_true rfl) dX7_put_4 ⟨(Nat.le_of_ble_eq_true rfl), (Nat.le_of_ble_eq_true rfl)⟩ (fun H locs hP hS => ?_)
  replace h := bd h
  obtain ⟨t4, ht, h⟩ := h
  have K4 : ∀ (H : Heap) (locs : List Loc) (ls : Array Slot), SP D cy S H → (∀ a, S a ≠ none → (dm S s.heap.size) a) → va_S (dm S s.heap.size) s.heap H locs → lv_has ls 5 [(0, .ref a0), (1, .int a1), (2, .int a2), (3, .int a3)] → W p l e rm_X7_put s m ([.ref a0, .int a1, .int a2, .int a3] : List Value).toArray below meth c H locs 0 0 (MQ below (va_Qi (fun r' (_ : Unit) => r' = r) (fun _ t => PoS D cy S1 (dm S s.heap.size) t) (dm S s.heap.size)) ([.ref a0, .int a1, .int a2, .int a3] : List Value).toArray s 0 0 (dm S s.heap.size)) (F0 m 26 ls [.int t4, .ref a0]) := by
    intro H locs ls hP hD hS hl
    replace h := bd h
    obtain ⟨Z9, q10, h⟩ := h
    refine fp_6_5 hx hb hts hown hK hP hD hS wd_892 q10 dX7_put_26 (fun H locs hz9 hP hD hS => ?_)
    refine lv_aload_n hx hb dX7_put_29 rfl (lv_at hl 0 rfl) ?_
    replace h := bd h
    obtain ⟨x11, q12, h⟩ := h
    refine fg_6_5 hx hb hts hown hK hP wd_892 q12 dX7_put_30 ?_
    refine lv_if_le (tgt := 38) hx hb dX7_put_33 (by decide) (fun c13 => ?_) (fun c13 => ?_)
    · replace h := ifp c13 h
      refine lv_aload_n hx hb dX7_put_38 rfl (lv_at hl 0 rfl) ?_
      replace h := bd h
      obtain ⟨_, q14, h⟩ := h
      replace h := bd h
      obtain ⟨z16, q15, h⟩ := h
      refine c_X7_save ⟨hx, hb, hml, hown, hts⟩ hl.1 hK hP hD hA hS wd_941 ⟨(Nat.le_of_ble_eq_true rfl), (Nat.le_of_ble_eq_true rfl)⟩ q15 q14 (Nat.le_of_ble_eq_true rfl) dX7_put_39 ⟨(Nat.le_of_ble_eq_true rfl), (Nat.le_of_ble_eq_true rfl)⟩ (fun H locs hP hD hS => ?_)
      refine lv_aload_n hx hb dX7_put_42 rfl (lv_at hl 0 rfl) ?_
      refine lv_iload_n hx hb dX7_put_43 rfl (lv_at hl 1 rfl) ?_
      refine lv_bipush (v := 8) hx hb dX7_put_44 (by decide) ?_
      refine lv_iload_n hx hb dX7_put_46 rfl (lv_at hl 2 rfl) ?_
      refine lv_iadd hx hb dX7_put_47 ?_
      replace h := bd h
      obtain ⟨_, q17, h⟩ := h
      replace h := bd h
      obtain ⟨x19, q18, h⟩ := h
      refine c_X7_of ⟨hx, hb, hml, hown, hts⟩ hl.1 hK hP hS wd_961 ⟨(Nat.le_of_ble_eq_true rfl), (Nat.le_of_ble_eq_true rfl)⟩ q18 q17 (Nat.le_of_ble_eq_true rfl) dX7_put_48 ⟨(Nat.le_of_ble_eq_true rfl), (Nat.le_of_ble_eq_true rfl)⟩ (fun H locs hP hS => ?_)
      refine lv_istore (lv' := [(4, .int x19), (0, .ref a0), (1, .int a1), (2, .int a2), (3, .int a3)]) hx hb dX7_put_51 hl (by decide) rfl (fun ls hl => ?_)
      refine lv_aload_n hx hb dX7_put_53 rfl (lv_at hl 1 rfl) ?_
      refine lv_iload_n hx hb dX7_put_54 rfl (lv_at hl 2 rfl) ?_
      refine lv_bipush (v := 8) hx hb dX7_put_55 (by decide) ?_
      refine lv_iload_n hx hb dX7_put_57 rfl (lv_at hl 3 rfl) ?_
      refine lv_iadd hx hb dX7_put_58 ?_
      refine lv_iload_n hx hb dX7_put_59 rfl (lv_at hl 4 rfl) ?_
      replace h := bd h
      obtain ⟨_, q20, h⟩ := h
      replace h := bd h
      obtain ⟨z22, q21, h⟩ := h
      refine c_X7_setOf ⟨hx, hb, hml, hown, hts⟩ hl.1 hK hP hD hA hS wd_949 ⟨(Nat.le_of_ble_eq_true rfl), (Nat.le_of_ble_eq_true rfl)⟩ q21 q20 (Nat.le_of_ble_eq_true rfl) dX7_put_60 ⟨(Nat.le_of_ble_eq_true rfl), (Nat.le_of_ble_eq_true rfl)⟩ (fun H locs hP hD hS => ?_)
      refine lv_iload hx hb dX7_put_63 (lv_at hl 0 rfl) ?_
      cases h
      exact e_im hx hb hlocks hr hP hD hS (Nat.le_of_ble_eq_true rfl) (Nat.le_of_ble_eq_true rfl) dX7_put_65
    · replace h := ifn c13 h
      refine lv_iconst (v := 0) hx hb dX7_put_36 (by decide) ?_
      cases h
      exact e_im hx hb hlocks hr hP hD hS (Nat.le_of_ble_eq_true rfl) (Nat.le_of_ble_eq_true rfl) dX7_put_37
  replace h := ht
  refine lv_if_ne (tgt := 14) hx hb dX7_put_7 (by decide) (fun c5 => ?_) (fun c5 => ?_)
  · replace h := ifn c5 h
    refine lv_iload_n hx hb dX7_put_14 rfl (lv_at hl 3 rfl) ?_
    replace h := bd h
    obtain ⟨x7, q6, h⟩ := h
    refine c_X7_isValue ⟨hx, hb, hml, hown, hts⟩ hl.1 hK hP hS wd_935 ⟨(Nat.le_of_ble_eq_true rfl), (Nat.le_of_ble_eq_true rfl)⟩ q6 (Nat.le_of_ble_eq_true rfl) dX7_put_15 ⟨(Nat.le_of_ble_eq_true rfl), (Nat.le_of_ble_eq_true rfl)⟩ (fun H locs hP hS => ?_)
    refine lv_if_eq (tgt := 25) hx hb dX7_put_18 (by decide) (fun c8 => ?_) (fun c8 => ?_)
    · replace h := ifp c8 h
      refine lv_iconst (v := 2) hx hb dX7_put_25 (by decide) ?_
      cases h
      exact K4 _ _ _ hP hD hS (lv_sub hl [0, 1, 2, 3] rfl)
    · replace h := ifn c8 h
      refine lv_iconst (v := 0) hx hb dX7_put_21 (by decide) ?_
      refine lv_goto (tgt := 26) hx hb dX7_put_22 (by decide) ?_
      cases h
      exact K4 _ _ _ hP hD hS (lv_sub hl [0, 1, 2, 3] rfl)
  · replace h := ifp c5 h
    refine lv_iconst (v := 1) hx hb dX7_put_10 (by decide) ?_
    refine lv_goto (tgt := 26) hx hb dX7_put_11 (by decide) ?_
    cases h
    exact K4 _ _ _ hP hD hS (lv_sub hl [0, 1, 2, 3] rfl)
set_option maxRecDepth 100000 in
theorem c_X7_put {p : Program} {l : Launch} {e : Env} {R : Room} {s : State} {m : MethodId} {args : Array Value} {below : List Frame} {meth : Method} {c : Code} {H : Heap} {locs : List Loc} {cells slots : Nat} {Q : State → Prop} {cc : ByteArray} {pc index nL : Nat} {ls : Array Slot} {rest : List Value} {D : va_G} {cy : Nat → ClassId} {A0 : Nat → Prop} {S : St} {H0 : Heap} {own : String} {u : Unit} {a0 : Nat} {a1 : Int32} {a2 : Int32} {a3 : Int32} {r : Int32} {S1 : St}  (hF : CallFix p m c cc nL s args ALLW own) (hsz : ls.size = nL) (hK : va_K D vwCl (tyL cy) s) (hP : SP D cy S H) (hD : ∀ a, S a ≠ none → A0 a) (hA : ∀ q, H0.size ≤ q → A0 q) (hS : va_S A0 H0 H locs) (hk : Cond.methodLink own index yX7_put ∈ ALLW) (hR : rm_X7_put.frames + 1 ≤ R.frames ∧ 8 + (5 + 11) + rm_X7_put.locals ≤ R.locals) (h : f_X7_put S a0 a1 a2 a3 = some (r, S1)) (hc : oO S a0 6 = some u) (hW : (rest.map fun v => v.category).sum ≤ 8) (hdg : decode cc pc = .ok (.invokevirtual index, 3)) (hf : cells + 0 ≤ R.cells ∧ slots + 0 ≤ R.slots)
    (kk : ∀ (H1 : Heap) (locs1 : List Loc), SP D cy S1 H1 → (∀ a, S1 a ≠ none → A0 a) → va_S A0 H0 H1 locs1 → W p l e R s m args below meth c H1 locs1 (cells + 0) (slots + 0) Q (F0 m (pc + 3) ls (.int r :: rest))) : W p l e R s m args below meth c H locs cells slots Q (F0 m pc ls (.int a3 :: .int a2 :: .int a1 :: .ref a0 :: rest)) := by
  exact k_iVm (As := [.int a1, .int a2, .int a3]) hF hsz (m_X7_put l D cy H.size S a0 a1 a2 a3 r S1 h) (cwV_of (n := 3) hF.2.2.2.2 hk wd_1049 wd_1050 wd_75 wd_1051 rfl rfl (by decide +kernel) hR) rfl hK hP hD hA hS (ci := 6) hc rfl hW rfl hdg hf kk
/-- VowBlocksModel.take(II)I -/
def f_X7_take_L58 (y58_0 : Nat) (y58_1 : Int32) (y58_3 : Int32) : Nat → St → Int32 →  Option (St)
  | 0, _, _ => none
  | fu + 1, S58_, y58_4 =>
    if 23 ≤ y58_4 then
      some S58_
    else
      (oO S58_ y58_0 6).bind fun _ =>
      (f_X7_of S58_ y58_0 y58_1 ((8 + y58_4) + 1)).bind fun x26 =>
      (oO S58_ y58_0 6).bind fun _ =>
      (f_X7_setOf S58_ y58_0 y58_1 (8 + y58_4) x26).bind fun z29 =>
      f_X7_take_L58 y58_0 y58_1 y58_3 fu z29 (y58_4 + 1)
def f_X7_take (S : St) (a0 : Nat) (a1 : Int32) (a2 : Int32) : Option (Int32 × St) :=
  (oO S a0 6).bind fun _ =>
  (f_X7_isPlace S a0 a1 a2).bind fun x3 =>
  (
    if x3 = 0 then
      some 1
    else
      (oO S a0 6).bind fun _ =>
      (f_X7_of S a0 a1 0).bind fun x8 =>
      if x8 = 1 then
        some 2
      else
        some 0
  : Option (Int32)).bind fun t4 =>
  (pI S a0 6 5 t4).bind fun Z10 =>
  (gI Z10 a0 6 5).bind fun x12 =>
  if x12 ≤ 0 then
    (oO Z10 a0 6).bind fun _ =>
    (f_X7_save Z10 a0).bind fun z17 =>
    (oO z17 a0 6).bind fun _ =>
    (f_X7_of z17 a0 a1 (8 + a2)).bind fun x20 =>
    (f_X7_take_L58 a0 a1 x20 FU z17 a2).bind fun z21 =>
    (oO z21 a0 6).bind fun _ =>
    (f_X7_of z21 a0 a1 0).bind fun x33 =>
    (oO z21 a0 6).bind fun _ =>
    (f_X7_setOf z21 a0 a1 0 (x33 - 1)).bind fun z36 =>
    some (x20, z36)
  else
    some (0, Z10)
abbrev rm_X7_take : Room := { frames := 3, cells := 0, slots := 0, locals := 65 }
set_option maxHeartbeats 4000000 in
set_option maxRecDepth 100000 in
theorem m_X7_take (l : Launch) (D : va_G) (cy : Nat → ClassId) (sz : Nat) (S : St) (a0 : Nat) (a1 : Int32) (a2 : Int32) (r : Int32) (S1 : St) (h : f_X7_take S a0 a1 a2 = some (r, S1)) : Met l yX7_take (wsA yX7_take cX7_take 5 (some .int)) rm_X7_take (va_Pc [.ref a0, .int a1, .int a2] (PN D cy S sz)) (va_Qi (fun r' (_ : Unit) => r' = r) (fun _ t => PoS D cy S1 (dm S sz) t) (dm S sz)) 0 0 (dm S sz) := by
  refine Met.ofW (cc := cX7_take) (maxL := 5) (ret := (some .int)) (by decide) rfl ?_
  intro p e s m args below meth c s₁ B hml hv
  obtain ⟨rfl, hsz, hP, hK⟩ := hv
  have hx := B.exec
  have hb := B.bytes
  have hr := B.returns
  have hts9 := atoms_spec (ws := wsA yX7_take cX7_take 5 (some .int)) B.pre
  have hts : ∀ w ∈ ALLW, w.before _ s = true := fun w h => hts9 w (List.mem_cons_of_mem _ h)
  have hown : s.vm.findClass RX7 = some m.cls := findClass_of_methodNamed B.named
  have hlocks := B.notSynchronized
  subst hsz
  have hD : ∀ a, S a ≠ none → dm S s.heap.size a := fun a h => Or.inl h
  have hA : ∀ q : Nat, s.heap.size ≤ q → dm S s.heap.size q := fun q h => Or.inr h
  have hS : va_S (dm S s.heap.size) s.heap s.heap [] := va_S.rf
  have hl := lv_entry [.ref a0, .int a1, .int a2] (n := 5) (Nat.le_of_ble_eq_true rfl)
  rw [lg_entry_eq]
  generalize (lg_sl [.ref a0, .int a1, .int a2] ++ List.replicate (5 - (lg_sl [.ref a0, .int a1, .int a2]).length) Slot.unset).toArray = ls at hl ⊢
  have hl : lv_has ls 5 [(0, .ref a0), (1, .int a1), (2, .int a2)] := hl
  rw [f_X7_take] at h
  refine lv_aload_n hx hb dX7_take_0 rfl (lv_at hl 0 rfl) ?_
  refine lv_aload_n hx hb dX7_take_1 rfl (lv_at hl 0 rfl) ?_
  refine lv_iload_n hx hb dX7_take_2 rfl (lv_at hl 1 rfl) ?_
  refine lv_iload_n hx hb dX7_take_3 rfl (lv_at hl 2 rfl) ?_
  replace h := bd h
  obtain ⟨_, q1, h⟩ := h
  replace h := bd h
  obtain ⟨x3, q2, h⟩ := h
  refine c_X7_isPlace ⟨hx, hb, hml, hown, hts⟩ hl.1 hK hP hS wd_1052 ⟨(Nat.le_of_ble_eq_true rfl), (Nat.le_of_ble_eq_true rfl)⟩ q2 q1 (Nat.le_of_ble_eq_true rfl) dX7_take_4 ⟨(Nat.le_of_ble_eq_true rfl), (Nat.le_of_ble_eq_true rfl)⟩ (fun H locs hP hS => ?_)
  replace h := bd h
  obtain ⟨t4, ht, h⟩ := h
  have K4 : ∀ (H : Heap) (locs : List Loc) (ls : Array Slot), SP D cy S H → (∀ a, S a ≠ none → (dm S s.heap.size) a) → va_S (dm S s.heap.size) s.heap H locs → lv_has ls 5 [(0, .ref a0), (1, .int a1), (2, .int a2)] → W p l e rm_X7_take s m ([.ref a0, .int a1, .int a2] : List Value).toArray below meth c H locs 0 0 (MQ below (va_Qi (fun r' (_ : Unit) => r' = r) (fun _ t => PoS D cy S1 (dm S s.heap.size) t) (dm S s.heap.size)) ([.ref a0, .int a1, .int a2] : List Value).toArray s 0 0 (dm S s.heap.size)) (F0 m 29 ls [.int t4, .ref a0]) := by
    intro H locs ls hP hD hS hl
    replace h := bd h
    obtain ⟨Z10, q11, h⟩ := h
    refine fp_6_5 hx hb hts hown hK hP hD hS wd_892 q11 dX7_take_29 (fun H locs hz9 hP hD hS => ?_)
    refine lv_aload_n hx hb dX7_take_32 rfl (lv_at hl 0 rfl) ?_
    replace h := bd h
    obtain ⟨x12, q13, h⟩ := h
    refine fg_6_5 hx hb hts hown hK hP wd_892 q13 dX7_take_33 ?_
    refine lv_if_le (tgt := 41) hx hb dX7_take_36 (by decide) (fun c14 => ?_) (fun c14 => ?_)
    · replace h := ifp c14 h
      refine lv_aload_n hx hb dX7_take_41 rfl (lv_at hl 0 rfl) ?_
      replace h := bd h
      obtain ⟨_, q15, h⟩ := h
      replace h := bd h
      obtain ⟨z17, q16, h⟩ := h
      refine c_X7_save ⟨hx, hb, hml, hown, hts⟩ hl.1 hK hP hD hA hS wd_941 ⟨(Nat.le_of_ble_eq_true rfl), (Nat.le_of_ble_eq_true rfl)⟩ q16 q15 (Nat.le_of_ble_eq_true rfl) dX7_take_42 ⟨(Nat.le_of_ble_eq_true rfl), (Nat.le_of_ble_eq_true rfl)⟩ (fun H locs hP hD hS => ?_)
      refine lv_aload_n hx hb dX7_take_45 rfl (lv_at hl 0 rfl) ?_
      refine lv_iload_n hx hb dX7_take_46 rfl (lv_at hl 1 rfl) ?_
      refine lv_bipush (v := 8) hx hb dX7_take_47 (by decide) ?_
      refine lv_iload_n hx hb dX7_take_49 rfl (lv_at hl 2 rfl) ?_
      refine lv_iadd hx hb dX7_take_50 ?_
      replace h := bd h
      obtain ⟨_, q18, h⟩ := h
      replace h := bd h
      obtain ⟨x20, q19, h⟩ := h
      refine c_X7_of ⟨hx, hb, hml, hown, hts⟩ hl.1 hK hP hS wd_961 ⟨(Nat.le_of_ble_eq_true rfl), (Nat.le_of_ble_eq_true rfl)⟩ q19 q18 (Nat.le_of_ble_eq_true rfl) dX7_take_51 ⟨(Nat.le_of_ble_eq_true rfl), (Nat.le_of_ble_eq_true rfl)⟩ (fun H locs hP hS => ?_)
      refine lv_istore_n (lv' := [(3, .int x20), (0, .ref a0), (1, .int a1), (2, .int a2)]) hx hb dX7_take_54 rfl hl (by decide) rfl (fun ls hl => ?_)
      refine lv_iload_n hx hb dX7_take_55 rfl (lv_at hl 3 rfl) ?_
      refine lv_istore (lv' := [(4, .int a2), (3, .int x20), (0, .ref a0), (1, .int a1), (2, .int a2)]) hx hb dX7_take_56 hl (by decide) rfl (fun ls hl => ?_)
      have L58 : ∀ (y58_0 : Nat) (y58_1 : Int32) (y58_3 : Int32) (fu : Nat) (S58_ : St) (y58_4 : Int32) (res : St), f_X7_take_L58 y58_0 y58_1 y58_3 fu S58_ y58_4 = some res → ∀ (H : Heap) (locs : List Loc) (ls : Array Slot), SP D cy S58_ H → (∀ a, S58_ a ≠ none → (dm S s.heap.size) a) → va_S (dm S s.heap.size) s.heap H locs → lv_has ls 5 [(0, .ref y58_0), (1, .int y58_1), (3, .int y58_3), (4, .int y58_4)] → (∀ (H : Heap) (locs : List Loc) (ls : Array Slot), SP D cy res H → (∀ a, res a ≠ none → (dm S s.heap.size) a) → va_S (dm S s.heap.size) s.heap H locs → lv_has ls 5 [(0, .ref y58_0), (1, .int y58_1), (3, .int y58_3)] → W p l e rm_X7_take s m ([.ref a0, .int a1, .int a2] : List Value).toArray below meth c H locs 0 0 (MQ below (va_Qi (fun r' (_ : Unit) => r' = r) (fun _ t => PoS D cy S1 (dm S s.heap.size) t) (dm S s.heap.size)) ([.ref a0, .int a1, .int a2] : List Value).toArray s 0 0 (dm S s.heap.size)) (F0 m 93 ls [])) → W p l e rm_X7_take s m ([.ref a0, .int a1, .int a2] : List Value).toArray below meth c H locs 0 0 (MQ below (va_Qi (fun r' (_ : Unit) => r' = r) (fun _ t => PoS D cy S1 (dm S s.heap.size) t) (dm S s.heap.size)) ([.ref a0, .int a1, .int a2] : List Value).toArray s 0 0 (dm S s.heap.size)) (F0 m 58 ls []) := by
        intro y58_0 y58_1 y58_3 fu
        induction fu with
        | zero =>
          intro S58_ y58_4 res h
          rw [f_X7_take_L58] at h
          cases h
        | succ fu ih =>
          intro S58_ y58_4 res h H locs ls hP hD hS hl hexit
          rw [f_X7_take_L58] at h
          refine lv_iload hx hb dX7_take_58 (lv_at hl 3 rfl) ?_
          refine lv_bipush (v := 23) hx hb dX7_take_60 (by decide) ?_
          refine lv_icmp_ge (tgt := 93) hx hb dX7_take_62 (by decide) (fun c23 => ?_) (fun c23 => ?_)
          · replace h := ifp c23 h
            cases h
            exact hexit _ _ _ hP hD hS (lv_sub hl [0, 1, 2] rfl)
          · replace h := ifn c23 h
            refine lv_aload_n hx hb dX7_take_65 rfl (lv_at hl 0 rfl) ?_
            refine lv_iload_n hx hb dX7_take_66 rfl (lv_at hl 1 rfl) ?_
            refine lv_bipush (v := 8) hx hb dX7_take_67 (by decide) ?_
            refine lv_iload hx hb dX7_take_69 (lv_at hl 3 rfl) ?_
            refine lv_iadd hx hb dX7_take_71 ?_
            refine lv_aload_n hx hb dX7_take_72 rfl (lv_at hl 0 rfl) ?_
            refine lv_iload_n hx hb dX7_take_73 rfl (lv_at hl 1 rfl) ?_
            refine lv_bipush (v := 8) hx hb dX7_take_74 (by decide) ?_
            refine lv_iload hx hb dX7_take_76 (lv_at hl 3 rfl) ?_
            refine lv_iadd hx hb dX7_take_78 ?_
            refine lv_iconst (v := 1) hx hb dX7_take_79 (by decide) ?_
            refine lv_iadd hx hb dX7_take_80 ?_
            replace h := bd h
            obtain ⟨_, q24, h⟩ := h
            replace h := bd h
            obtain ⟨x26, q25, h⟩ := h
            refine c_X7_of ⟨hx, hb, hml, hown, hts⟩ hl.1 hK hP hS wd_961 ⟨(Nat.le_of_ble_eq_true rfl), (Nat.le_of_ble_eq_true rfl)⟩ q25 q24 (Nat.le_of_ble_eq_true rfl) dX7_take_81 ⟨(Nat.le_of_ble_eq_true rfl), (Nat.le_of_ble_eq_true rfl)⟩ (fun H locs hP hS => ?_)
            replace h := bd h
            obtain ⟨_, q27, h⟩ := h
            replace h := bd h
            obtain ⟨z29, q28, h⟩ := h
            refine c_X7_setOf ⟨hx, hb, hml, hown, hts⟩ hl.1 hK hP hD hA hS wd_949 ⟨(Nat.le_of_ble_eq_true rfl), (Nat.le_of_ble_eq_true rfl)⟩ q28 q27 (Nat.le_of_ble_eq_true rfl) dX7_take_84 ⟨(Nat.le_of_ble_eq_true rfl), (Nat.le_of_ble_eq_true rfl)⟩ (fun H locs hP hD hS => ?_)
            refine lv_iinc (v := (y58_4 + 1)) (lv' := [(4, .int (y58_4 + 1)), (0, .ref y58_0), (1, .int y58_1), (3, .int y58_3)]) hx hb dX7_take_87 hl (k := 3) rfl rfl (by decide) rfl (fun ls hl => ?_)
            refine lv_goto (tgt := 58) hx hb dX7_take_90 (by decide) ?_
            exact ih z29 (y58_4 + 1) _ h _ _ _ hP hD hS (lv_sub hl [1, 2, 3, 0] rfl) hexit
      replace h := bd h
      obtain ⟨z21, q30, h⟩ := h
      refine L58 a0 a1 x20 FU z17 a2 z21 q30 _ _ _ hP hD hS (lv_sub hl [2, 3, 1, 0] rfl) (fun H locs ls hP hD hS hl => ?_)
      refine lv_aload_n hx hb dX7_take_93 rfl (lv_at hl 0 rfl) ?_
      refine lv_iload_n hx hb dX7_take_94 rfl (lv_at hl 1 rfl) ?_
      refine lv_iconst (v := 0) hx hb dX7_take_95 (by decide) ?_
      refine lv_aload_n hx hb dX7_take_96 rfl (lv_at hl 0 rfl) ?_
      refine lv_iload_n hx hb dX7_take_97 rfl (lv_at hl 1 rfl) ?_
      refine lv_iconst (v := 0) hx hb dX7_take_98 (by decide) ?_
      replace h := bd h
      obtain ⟨_, q31, h⟩ := h
      replace h := bd h
      obtain ⟨x33, q32, h⟩ := h
      refine c_X7_of ⟨hx, hb, hml, hown, hts⟩ hl.1 hK hP hS wd_961 ⟨(Nat.le_of_ble_eq_true rfl), (Nat.le_of_ble_eq_true rfl)⟩ q32 q31 (Nat.le_of_ble_eq_true rfl) dX7_take_99 ⟨(Nat.le_of_ble_eq_true rfl), (Nat.le_of_ble_eq_true rfl)⟩ (fun H locs hP hS => ?_)
      refine lv_iconst (v := 1) hx hb dX7_take_102 (by decide) ?_
      refine lv_isub hx hb dX7_take_103 ?_
      replace h := bd h
      obtain ⟨_, q34, h⟩ := h
      replace h := bd h
      obtain ⟨z36, q35, h⟩ := h
      refine c_X7_setOf ⟨hx, hb, hml, hown, hts⟩ hl.1 hK hP hD hA hS wd_949 ⟨(Nat.le_of_ble_eq_true rfl), (Nat.le_of_ble_eq_true rfl)⟩ q35 q34 (Nat.le_of_ble_eq_true rfl) dX7_take_104 ⟨(Nat.le_of_ble_eq_true rfl), (Nat.le_of_ble_eq_true rfl)⟩ (fun H locs hP hD hS => ?_)
      refine lv_iload_n hx hb dX7_take_107 rfl (lv_at hl 2 rfl) ?_
      cases h
      exact e_im hx hb hlocks hr hP hD hS (Nat.le_of_ble_eq_true rfl) (Nat.le_of_ble_eq_true rfl) dX7_take_108
    · replace h := ifn c14 h
      refine lv_iconst (v := 0) hx hb dX7_take_39 (by decide) ?_
      cases h
      exact e_im hx hb hlocks hr hP hD hS (Nat.le_of_ble_eq_true rfl) (Nat.le_of_ble_eq_true rfl) dX7_take_40
  replace h := ht
  refine lv_if_ne (tgt := 14) hx hb dX7_take_7 (by decide) (fun c5 => ?_) (fun c5 => ?_)
  · replace h := ifn c5 h
    refine lv_aload_n hx hb dX7_take_14 rfl (lv_at hl 0 rfl) ?_
    refine lv_iload_n hx hb dX7_take_15 rfl (lv_at hl 1 rfl) ?_
    refine lv_iconst (v := 0) hx hb dX7_take_16 (by decide) ?_
    replace h := bd h
    obtain ⟨_, q6, h⟩ := h
    replace h := bd h
    obtain ⟨x8, q7, h⟩ := h
    refine c_X7_of ⟨hx, hb, hml, hown, hts⟩ hl.1 hK hP hS wd_961 ⟨(Nat.le_of_ble_eq_true rfl), (Nat.le_of_ble_eq_true rfl)⟩ q7 q6 (Nat.le_of_ble_eq_true rfl) dX7_take_17 ⟨(Nat.le_of_ble_eq_true rfl), (Nat.le_of_ble_eq_true rfl)⟩ (fun H locs hP hS => ?_)
    refine lv_iconst (v := 1) hx hb dX7_take_20 (by decide) ?_
    refine lv_icmp_ne (tgt := 28) hx hb dX7_take_21 (by decide) (fun c9 => ?_) (fun c9 => ?_)
    · replace h := ifn c9 h
      refine lv_iconst (v := 0) hx hb dX7_take_28 (by decide) ?_
      cases h
      exact K4 _ _ _ hP hD hS (lv_sub hl [0, 1, 2] rfl)
    · replace h := ifp c9 h
      refine lv_iconst (v := 2) hx hb dX7_take_24 (by decide) ?_
      refine lv_goto (tgt := 29) hx hb dX7_take_25 (by decide) ?_
      cases h
      exact K4 _ _ _ hP hD hS (lv_sub hl [0, 1, 2] rfl)
  · replace h := ifp c5 h
    refine lv_iconst (v := 1) hx hb dX7_take_10 (by decide) ?_
    refine lv_goto (tgt := 29) hx hb dX7_take_11 (by decide) ?_
    cases h
    exact K4 _ _ _ hP hD hS (lv_sub hl [0, 1, 2] rfl)
set_option maxRecDepth 100000 in
theorem c_X7_take {p : Program} {l : Launch} {e : Env} {R : Room} {s : State} {m : MethodId} {args : Array Value} {below : List Frame} {meth : Method} {c : Code} {H : Heap} {locs : List Loc} {cells slots : Nat} {Q : State → Prop} {cc : ByteArray} {pc index nL : Nat} {ls : Array Slot} {rest : List Value} {D : va_G} {cy : Nat → ClassId} {A0 : Nat → Prop} {S : St} {H0 : Heap} {own : String} {u : Unit} {a0 : Nat} {a1 : Int32} {a2 : Int32} {r : Int32} {S1 : St}  (hF : CallFix p m c cc nL s args ALLW own) (hsz : ls.size = nL) (hK : va_K D vwCl (tyL cy) s) (hP : SP D cy S H) (hD : ∀ a, S a ≠ none → A0 a) (hA : ∀ q, H0.size ≤ q → A0 q) (hS : va_S A0 H0 H locs) (hk : Cond.methodLink own index yX7_take ∈ ALLW) (hR : rm_X7_take.frames + 1 ≤ R.frames ∧ 8 + (5 + 11) + rm_X7_take.locals ≤ R.locals) (h : f_X7_take S a0 a1 a2 = some (r, S1)) (hc : oO S a0 6 = some u) (hW : (rest.map fun v => v.category).sum ≤ 8) (hdg : decode cc pc = .ok (.invokevirtual index, 3)) (hf : cells + 0 ≤ R.cells ∧ slots + 0 ≤ R.slots)
    (kk : ∀ (H1 : Heap) (locs1 : List Loc), SP D cy S1 H1 → (∀ a, S1 a ≠ none → A0 a) → va_S A0 H0 H1 locs1 → W p l e R s m args below meth c H1 locs1 (cells + 0) (slots + 0) Q (F0 m (pc + 3) ls (.int r :: rest))) : W p l e R s m args below meth c H locs cells slots Q (F0 m pc ls (.int a2 :: .int a1 :: .ref a0 :: rest)) := by
  exact k_iVm (As := [.int a1, .int a2]) hF hsz (m_X7_take l D cy H.size S a0 a1 a2 r S1 h) (cwV_of (n := 2) hF.2.2.2.2 hk wd_1057 wd_1058 wd_75 wd_1059 rfl rfl (by decide +kernel) hR) rfl hK hP hD hA hS (ci := 6) hc rfl hW rfl hdg hf kk
/-- VowBlocksModel.turn(I)I -/
def f_X7_turn_L37 (y37_0 : Nat) (y37_1 : Int32) : Nat → St → Int32 →  Option (St)
  | 0, _, _ => none
  | fu + 1, S37_, y37_2 =>
    (gI S37_ y37_0 6 7).bind fun x19 =>
    if x19 ≤ y37_2 then
      some S37_
    else
      (gR S37_ y37_0 6 6).bind fun x22 =>
      (gI S37_ y37_0 6 7).bind fun x24 =>
      (aI S37_ x22 ((x24 - 1) - y37_2)).bind fun x26 =>
      (oO S37_ y37_0 6).bind fun _ =>
      (f_X7_setOf S37_ y37_0 y37_1 (8 + y37_2) x26).bind fun z30 =>
      f_X7_turn_L37 y37_0 y37_1 fu z30 (y37_2 + 1)
def f_X7_turn (S : St) (a0 : Nat) (a1 : Int32) : Option (Int32 × St) :=
  (oO S a0 6).bind fun _ =>
  (f_X7_isBlock S a0 a1).bind fun x3 =>
  (
    if x3 = 0 then
      some 1
    else
      some 0
  : Option (Int32)).bind fun t4 =>
  (pI S a0 6 5 t4).bind fun Z6 =>
  (gI Z6 a0 6 5).bind fun x8 =>
  if x8 ≤ 0 then
    (oO Z6 a0 6).bind fun _ =>
    (f_X7_save Z6 a0).bind fun z13 =>
    (oO z13 a0 6).bind fun _ =>
    (f_X7_lay z13 a0 a1).bind fun z16 =>
    (f_X7_turn_L37 a0 a1 FU z16 0).bind fun z17 =>
    (gR z17 a0 6 6).bind fun x32 =>
    (gI z17 a0 6 7).bind fun x34 =>
    (aI z17 x32 (x34 - 1)).bind fun x36 =>
    some (x36, z17)
  else
    some (0, Z6)
abbrev rm_X7_turn : Room := { frames := 2, cells := 0, slots := 0, locals := 44 }
set_option maxHeartbeats 4000000 in
set_option maxRecDepth 100000 in
theorem m_X7_turn (l : Launch) (D : va_G) (cy : Nat → ClassId) (sz : Nat) (S : St) (a0 : Nat) (a1 : Int32) (r : Int32) (S1 : St) (h : f_X7_turn S a0 a1 = some (r, S1)) : Met l yX7_turn (wsA yX7_turn cX7_turn 3 (some .int)) rm_X7_turn (va_Pc [.ref a0, .int a1] (PN D cy S sz)) (va_Qi (fun r' (_ : Unit) => r' = r) (fun _ t => PoS D cy S1 (dm S sz) t) (dm S sz)) 0 0 (dm S sz) := by
  refine Met.ofW (cc := cX7_turn) (maxL := 3) (ret := (some .int)) (by decide) rfl ?_
  intro p e s m args below meth c s₁ B hml hv
  obtain ⟨rfl, hsz, hP, hK⟩ := hv
  have hx := B.exec
  have hb := B.bytes
  have hr := B.returns
  have hts9 := atoms_spec (ws := wsA yX7_turn cX7_turn 3 (some .int)) B.pre
  have hts : ∀ w ∈ ALLW, w.before _ s = true := fun w h => hts9 w (List.mem_cons_of_mem _ h)
  have hown : s.vm.findClass RX7 = some m.cls := findClass_of_methodNamed B.named
  have hlocks := B.notSynchronized
  subst hsz
  have hD : ∀ a, S a ≠ none → dm S s.heap.size a := fun a h => Or.inl h
  have hA : ∀ q : Nat, s.heap.size ≤ q → dm S s.heap.size q := fun q h => Or.inr h
  have hS : va_S (dm S s.heap.size) s.heap s.heap [] := va_S.rf
  have hl := lv_entry [.ref a0, .int a1] (n := 3) (Nat.le_of_ble_eq_true rfl)
  rw [lg_entry_eq]
  generalize (lg_sl [.ref a0, .int a1] ++ List.replicate (3 - (lg_sl [.ref a0, .int a1]).length) Slot.unset).toArray = ls at hl ⊢
  have hl : lv_has ls 3 [(0, .ref a0), (1, .int a1)] := hl
  rw [f_X7_turn] at h
  refine lv_aload_n hx hb dX7_turn_0 rfl (lv_at hl 0 rfl) ?_
  refine lv_aload_n hx hb dX7_turn_1 rfl (lv_at hl 0 rfl) ?_
  refine lv_iload_n hx hb dX7_turn_2 rfl (lv_at hl 1 rfl) ?_
  replace h := bd h
  obtain ⟨_, q1, h⟩ := h
  replace h := bd h
  obtain ⟨x3, q2, h⟩ := h
  refine c_X7_isBlock ⟨hx, hb, hml, hown, hts⟩ hl.1 hK hP hS wd_1044 ⟨(Nat.le_of_ble_eq_true rfl), (Nat.le_of_ble_eq_true rfl)⟩ q2 q1 (Nat.le_of_ble_eq_true rfl) dX7_turn_3 ⟨(Nat.le_of_ble_eq_true rfl), (Nat.le_of_ble_eq_true rfl)⟩ (fun H locs hP hS => ?_)
  replace h := bd h
  obtain ⟨t4, ht, h⟩ := h
  have K4 : ∀ (H : Heap) (locs : List Loc) (ls : Array Slot), SP D cy S H → (∀ a, S a ≠ none → (dm S s.heap.size) a) → va_S (dm S s.heap.size) s.heap H locs → lv_has ls 3 [(0, .ref a0), (1, .int a1)] → W p l e rm_X7_turn s m ([.ref a0, .int a1] : List Value).toArray below meth c H locs 0 0 (MQ below (va_Qi (fun r' (_ : Unit) => r' = r) (fun _ t => PoS D cy S1 (dm S s.heap.size) t) (dm S s.heap.size)) ([.ref a0, .int a1] : List Value).toArray s 0 0 (dm S s.heap.size)) (F0 m 14 ls [.int t4, .ref a0]) := by
    intro H locs ls hP hD hS hl
    replace h := bd h
    obtain ⟨Z6, q7, h⟩ := h
    refine fp_6_5 hx hb hts hown hK hP hD hS wd_892 q7 dX7_turn_14 (fun H locs hz9 hP hD hS => ?_)
    refine lv_aload_n hx hb dX7_turn_17 rfl (lv_at hl 0 rfl) ?_
    replace h := bd h
    obtain ⟨x8, q9, h⟩ := h
    refine fg_6_5 hx hb hts hown hK hP wd_892 q9 dX7_turn_18 ?_
    refine lv_if_le (tgt := 26) hx hb dX7_turn_21 (by decide) (fun c10 => ?_) (fun c10 => ?_)
    · replace h := ifp c10 h
      refine lv_aload_n hx hb dX7_turn_26 rfl (lv_at hl 0 rfl) ?_
      replace h := bd h
      obtain ⟨_, q11, h⟩ := h
      replace h := bd h
      obtain ⟨z13, q12, h⟩ := h
      refine c_X7_save ⟨hx, hb, hml, hown, hts⟩ hl.1 hK hP hD hA hS wd_941 ⟨(Nat.le_of_ble_eq_true rfl), (Nat.le_of_ble_eq_true rfl)⟩ q12 q11 (Nat.le_of_ble_eq_true rfl) dX7_turn_27 ⟨(Nat.le_of_ble_eq_true rfl), (Nat.le_of_ble_eq_true rfl)⟩ (fun H locs hP hD hS => ?_)
      refine lv_aload_n hx hb dX7_turn_30 rfl (lv_at hl 0 rfl) ?_
      refine lv_iload_n hx hb dX7_turn_31 rfl (lv_at hl 1 rfl) ?_
      replace h := bd h
      obtain ⟨_, q14, h⟩ := h
      replace h := bd h
      obtain ⟨z16, q15, h⟩ := h
      refine c_X7_lay ⟨hx, hb, hml, hown, hts⟩ hl.1 hK hP hD hA hS wd_957 ⟨(Nat.le_of_ble_eq_true rfl), (Nat.le_of_ble_eq_true rfl)⟩ q15 q14 (Nat.le_of_ble_eq_true rfl) dX7_turn_32 ⟨(Nat.le_of_ble_eq_true rfl), (Nat.le_of_ble_eq_true rfl)⟩ (fun H locs hP hD hS => ?_)
      refine lv_iconst (v := 0) hx hb dX7_turn_35 (by decide) ?_
      refine lv_istore_n (lv' := [(2, .int 0), (0, .ref a0), (1, .int a1)]) hx hb dX7_turn_36 rfl hl (by decide) rfl (fun ls hl => ?_)
      have L37 : ∀ (y37_0 : Nat) (y37_1 : Int32) (fu : Nat) (S37_ : St) (y37_2 : Int32) (res : St), f_X7_turn_L37 y37_0 y37_1 fu S37_ y37_2 = some res → ∀ (H : Heap) (locs : List Loc) (ls : Array Slot), SP D cy S37_ H → (∀ a, S37_ a ≠ none → (dm S s.heap.size) a) → va_S (dm S s.heap.size) s.heap H locs → lv_has ls 3 [(0, .ref y37_0), (1, .int y37_1), (2, .int y37_2)] → (∀ (H : Heap) (locs : List Loc) (ls : Array Slot), SP D cy res H → (∀ a, res a ≠ none → (dm S s.heap.size) a) → va_S (dm S s.heap.size) s.heap H locs → lv_has ls 3 [(0, .ref y37_0)] → W p l e rm_X7_turn s m ([.ref a0, .int a1] : List Value).toArray below meth c H locs 0 0 (MQ below (va_Qi (fun r' (_ : Unit) => r' = r) (fun _ t => PoS D cy S1 (dm S s.heap.size) t) (dm S s.heap.size)) ([.ref a0, .int a1] : List Value).toArray s 0 0 (dm S s.heap.size)) (F0 m 73 ls [])) → W p l e rm_X7_turn s m ([.ref a0, .int a1] : List Value).toArray below meth c H locs 0 0 (MQ below (va_Qi (fun r' (_ : Unit) => r' = r) (fun _ t => PoS D cy S1 (dm S s.heap.size) t) (dm S s.heap.size)) ([.ref a0, .int a1] : List Value).toArray s 0 0 (dm S s.heap.size)) (F0 m 37 ls []) := by
        intro y37_0 y37_1 fu
        induction fu with
        | zero =>
          intro S37_ y37_2 res h
          rw [f_X7_turn_L37] at h
          cases h
        | succ fu ih =>
          intro S37_ y37_2 res h H locs ls hP hD hS hl hexit
          rw [f_X7_turn_L37] at h
          refine lv_iload_n hx hb dX7_turn_37 rfl (lv_at hl 2 rfl) ?_
          refine lv_aload_n hx hb dX7_turn_38 rfl (lv_at hl 0 rfl) ?_
          replace h := bd h
          obtain ⟨x19, q20, h⟩ := h
          refine fg_6_7 hx hb hts hown hK hP wd_894 q20 dX7_turn_39 ?_
          refine lv_icmp_ge (tgt := 73) hx hb dX7_turn_42 (by decide) (fun c21 => ?_) (fun c21 => ?_)
          · replace h := ifp c21 h
            cases h
            exact hexit _ _ _ hP hD hS (lv_sub hl [0] rfl)
          · replace h := ifn c21 h
            refine lv_aload_n hx hb dX7_turn_45 rfl (lv_at hl 0 rfl) ?_
            refine lv_iload_n hx hb dX7_turn_46 rfl (lv_at hl 1 rfl) ?_
            refine lv_bipush (v := 8) hx hb dX7_turn_47 (by decide) ?_
            refine lv_iload_n hx hb dX7_turn_49 rfl (lv_at hl 2 rfl) ?_
            refine lv_iadd hx hb dX7_turn_50 ?_
            refine lv_aload_n hx hb dX7_turn_51 rfl (lv_at hl 0 rfl) ?_
            replace h := bd h
            obtain ⟨x22, q23, h⟩ := h
            refine fg_6_6 hx hb hts hown hK hP wd_893 q23 dX7_turn_52 ?_
            refine lv_aload_n hx hb dX7_turn_55 rfl (lv_at hl 0 rfl) ?_
            replace h := bd h
            obtain ⟨x24, q25, h⟩ := h
            refine fg_6_7 hx hb hts hown hK hP wd_894 q25 dX7_turn_56 ?_
            refine lv_iconst (v := 1) hx hb dX7_turn_59 (by decide) ?_
            refine lv_isub hx hb dX7_turn_60 ?_
            refine lv_iload_n hx hb dX7_turn_61 rfl (lv_at hl 2 rfl) ?_
            refine lv_isub hx hb dX7_turn_62 ?_
            replace h := bd h
            obtain ⟨x26, q27, h⟩ := h
            refine r_aI hx hb hK hP q27 dX7_turn_63 ?_
            replace h := bd h
            obtain ⟨_, q28, h⟩ := h
            replace h := bd h
            obtain ⟨z30, q29, h⟩ := h
            refine c_X7_setOf ⟨hx, hb, hml, hown, hts⟩ hl.1 hK hP hD hA hS wd_949 ⟨(Nat.le_of_ble_eq_true rfl), (Nat.le_of_ble_eq_true rfl)⟩ q29 q28 (Nat.le_of_ble_eq_true rfl) dX7_turn_64 ⟨(Nat.le_of_ble_eq_true rfl), (Nat.le_of_ble_eq_true rfl)⟩ (fun H locs hP hD hS => ?_)
            refine lv_iinc (v := (y37_2 + 1)) (lv' := [(2, .int (y37_2 + 1)), (0, .ref y37_0), (1, .int y37_1)]) hx hb dX7_turn_67 hl (k := 2) rfl rfl (by decide) rfl (fun ls hl => ?_)
            refine lv_goto (tgt := 37) hx hb dX7_turn_70 (by decide) ?_
            exact ih z30 (y37_2 + 1) _ h _ _ _ hP hD hS (lv_sub hl [1, 2, 0] rfl) hexit
      replace h := bd h
      obtain ⟨z17, q31, h⟩ := h
      refine L37 a0 a1 FU z16 0 z17 q31 _ _ _ hP hD hS (lv_sub hl [1, 2, 0] rfl) (fun H locs ls hP hD hS hl => ?_)
      refine lv_aload_n hx hb dX7_turn_73 rfl (lv_at hl 0 rfl) ?_
      replace h := bd h
      obtain ⟨x32, q33, h⟩ := h
      refine fg_6_6 hx hb hts hown hK hP wd_893 q33 dX7_turn_74 ?_
      refine lv_aload_n hx hb dX7_turn_77 rfl (lv_at hl 0 rfl) ?_
      replace h := bd h
      obtain ⟨x34, q35, h⟩ := h
      refine fg_6_7 hx hb hts hown hK hP wd_894 q35 dX7_turn_78 ?_
      refine lv_iconst (v := 1) hx hb dX7_turn_81 (by decide) ?_
      refine lv_isub hx hb dX7_turn_82 ?_
      replace h := bd h
      obtain ⟨x36, q37, h⟩ := h
      refine r_aI hx hb hK hP q37 dX7_turn_83 ?_
      cases h
      exact e_im hx hb hlocks hr hP hD hS (Nat.le_of_ble_eq_true rfl) (Nat.le_of_ble_eq_true rfl) dX7_turn_84
    · replace h := ifn c10 h
      refine lv_iconst (v := 0) hx hb dX7_turn_24 (by decide) ?_
      cases h
      exact e_im hx hb hlocks hr hP hD hS (Nat.le_of_ble_eq_true rfl) (Nat.le_of_ble_eq_true rfl) dX7_turn_25
  replace h := ht
  refine lv_if_eq (tgt := 13) hx hb dX7_turn_6 (by decide) (fun c5 => ?_) (fun c5 => ?_)
  · replace h := ifp c5 h
    refine lv_iconst (v := 1) hx hb dX7_turn_13 (by decide) ?_
    cases h
    exact K4 _ _ _ hP hD hS (lv_sub hl [0, 1] rfl)
  · replace h := ifn c5 h
    refine lv_iconst (v := 0) hx hb dX7_turn_9 (by decide) ?_
    refine lv_goto (tgt := 14) hx hb dX7_turn_10 (by decide) ?_
    cases h
    exact K4 _ _ _ hP hD hS (lv_sub hl [0, 1] rfl)
set_option maxRecDepth 100000 in
theorem c_X7_turn {p : Program} {l : Launch} {e : Env} {R : Room} {s : State} {m : MethodId} {args : Array Value} {below : List Frame} {meth : Method} {c : Code} {H : Heap} {locs : List Loc} {cells slots : Nat} {Q : State → Prop} {cc : ByteArray} {pc index nL : Nat} {ls : Array Slot} {rest : List Value} {D : va_G} {cy : Nat → ClassId} {A0 : Nat → Prop} {S : St} {H0 : Heap} {own : String} {u : Unit} {a0 : Nat} {a1 : Int32} {r : Int32} {S1 : St}  (hF : CallFix p m c cc nL s args ALLW own) (hsz : ls.size = nL) (hK : va_K D vwCl (tyL cy) s) (hP : SP D cy S H) (hD : ∀ a, S a ≠ none → A0 a) (hA : ∀ q, H0.size ≤ q → A0 q) (hS : va_S A0 H0 H locs) (hk : Cond.methodLink own index yX7_turn ∈ ALLW) (hR : rm_X7_turn.frames + 1 ≤ R.frames ∧ 8 + (3 + 11) + rm_X7_turn.locals ≤ R.locals) (h : f_X7_turn S a0 a1 = some (r, S1)) (hc : oO S a0 6 = some u) (hW : (rest.map fun v => v.category).sum ≤ 8) (hdg : decode cc pc = .ok (.invokevirtual index, 3)) (hf : cells + 0 ≤ R.cells ∧ slots + 0 ≤ R.slots)
    (kk : ∀ (H1 : Heap) (locs1 : List Loc), SP D cy S1 H1 → (∀ a, S1 a ≠ none → A0 a) → va_S A0 H0 H1 locs1 → W p l e R s m args below meth c H1 locs1 (cells + 0) (slots + 0) Q (F0 m (pc + 3) ls (.int r :: rest))) : W p l e R s m args below meth c H locs cells slots Q (F0 m pc ls (.int a1 :: .ref a0 :: rest)) := by
  exact k_iVm (As := [.int a1]) hF hsz (m_X7_turn l D cy H.size S a0 a1 r S1 h) (cwV_of (n := 1) hF.2.2.2.2 hk wd_1061 wd_1062 wd_75 wd_1063 rfl rfl (by decide +kernel) hR) rfl hK hP hD hA hS (ci := 6) hc rfl hW rfl hdg hf kk
/-- VowBlocksModel.canJoin(II)Z -/
def f_X7_canJoin (S : St) (a0 : Nat) (a1 : Int32) (a2 : Int32) : Option (Int32) :=
  (
    if a1 = a2 then
      some 0
    else
      (oO S a0 6).bind fun _ =>
      (f_X7_of S a0 a1 0).bind fun x5 =>
      (oO S a0 6).bind fun _ =>
      (f_X7_of S a0 a2 0).bind fun x8 =>
      if 24 < (x5 + x8) then
        some 0
      else
        some 1
  : Option (Int32)).bind fun t1 =>
  (zz t1).bind fun _ =>
  some t1
abbrev rm_X7_canJoin : Room := { frames := 1, cells := 0, slots := 0, locals := 22 }
set_option maxHeartbeats 4000000 in
set_option maxRecDepth 100000 in
theorem m_X7_canJoin (l : Launch) (D : va_G) (cy : Nat → ClassId) (S : St) (a0 : Nat) (a1 : Int32) (a2 : Int32) (r : Int32) (h : f_X7_canJoin S a0 a1 a2 = some r) : Met l yX7_canJoin (wsA yX7_canJoin cX7_canJoin 3 (some .boolean)) rm_X7_canJoin (va_Pc [.ref a0, .int a1, .int a2] (PS D cy S)) (va_Qi (fun r' (_ : Unit) => r' = r) (fun _ _ => True) noA) 0 0 noA := by
  refine Met.ofW (cc := cX7_canJoin) (maxL := 3) (ret := (some .boolean)) (by decide) rfl ?_
  intro p e s m args below meth c s₁ B hml hv
  obtain ⟨rfl, hP, hK⟩ := hv
  have hx := B.exec
  have hb := B.bytes
  have hr := B.returns
  have hts9 := atoms_spec (ws := wsA yX7_canJoin cX7_canJoin 3 (some .boolean)) B.pre
  have hts : ∀ w ∈ ALLW, w.before _ s = true := fun w h => hts9 w (List.mem_cons_of_mem _ h)
  have hown : s.vm.findClass RX7 = some m.cls := findClass_of_methodNamed B.named
  have hlocks := B.notSynchronized
  have hS : va_S noA s.heap s.heap [] := va_S.rf
  have hl := lv_entry [.ref a0, .int a1, .int a2] (n := 3) (Nat.le_of_ble_eq_true rfl)
  rw [lg_entry_eq]
  generalize (lg_sl [.ref a0, .int a1, .int a2] ++ List.replicate (3 - (lg_sl [.ref a0, .int a1, .int a2]).length) Slot.unset).toArray = ls at hl ⊢
  have hl : lv_has ls 3 [(0, .ref a0), (1, .int a1), (2, .int a2)] := hl
  rw [f_X7_canJoin] at h
  refine lv_iload_n hx hb dX7_canJoin_0 rfl (lv_at hl 1 rfl) ?_
  refine lv_iload_n hx hb dX7_canJoin_1 rfl (lv_at hl 2 rfl) ?_
  replace h := bd h
  obtain ⟨t1, ht, h⟩ := h
  have K1 : ∀ (H : Heap) (locs : List Loc) (ls : Array Slot), SP D cy S H → va_S noA s.heap H locs → lv_has ls 3 [] → W p l e rm_X7_canJoin s m ([.ref a0, .int a1, .int a2] : List Value).toArray below meth c H locs 0 0 (MQ below (va_Qi (fun r' (_ : Unit) => r' = r) (fun _ _ => True) noA) ([.ref a0, .int a1, .int a2] : List Value).toArray s 0 0 noA) (F0 m 28 ls [.int t1]) := by
    intro H locs ls hP hS hl
    replace h := bd h
    obtain ⟨_, q10, h⟩ := h
    cases h
    exact e_zp hx hb hlocks (zz_spec q10) hr hS (Nat.le_of_ble_eq_true rfl) (Nat.le_of_ble_eq_true rfl) dX7_canJoin_28
  replace h := ht
  refine lv_icmp_eq (tgt := 27) hx hb dX7_canJoin_2 (by decide) (fun c2 => ?_) (fun c2 => ?_)
  · replace h := ifp c2 h
    refine lv_iconst (v := 0) hx hb dX7_canJoin_27 (by decide) ?_
    cases h
    exact K1 _ _ _ hP hS (lv_sub hl [] rfl)
  · replace h := ifn c2 h
    refine lv_aload_n hx hb dX7_canJoin_5 rfl (lv_at hl 0 rfl) ?_
    refine lv_iload_n hx hb dX7_canJoin_6 rfl (lv_at hl 1 rfl) ?_
    refine lv_iconst (v := 0) hx hb dX7_canJoin_7 (by decide) ?_
    replace h := bd h
    obtain ⟨_, q3, h⟩ := h
    replace h := bd h
    obtain ⟨x5, q4, h⟩ := h
    refine c_X7_of ⟨hx, hb, hml, hown, hts⟩ hl.1 hK hP hS wd_961 ⟨(Nat.le_of_ble_eq_true rfl), (Nat.le_of_ble_eq_true rfl)⟩ q4 q3 (Nat.le_of_ble_eq_true rfl) dX7_canJoin_8 ⟨(Nat.le_of_ble_eq_true rfl), (Nat.le_of_ble_eq_true rfl)⟩ (fun H locs hP hS => ?_)
    refine lv_aload_n hx hb dX7_canJoin_11 rfl (lv_at hl 0 rfl) ?_
    refine lv_iload_n hx hb dX7_canJoin_12 rfl (lv_at hl 2 rfl) ?_
    refine lv_iconst (v := 0) hx hb dX7_canJoin_13 (by decide) ?_
    replace h := bd h
    obtain ⟨_, q6, h⟩ := h
    replace h := bd h
    obtain ⟨x8, q7, h⟩ := h
    refine c_X7_of ⟨hx, hb, hml, hown, hts⟩ hl.1 hK hP hS wd_961 ⟨(Nat.le_of_ble_eq_true rfl), (Nat.le_of_ble_eq_true rfl)⟩ q7 q6 (Nat.le_of_ble_eq_true rfl) dX7_canJoin_14 ⟨(Nat.le_of_ble_eq_true rfl), (Nat.le_of_ble_eq_true rfl)⟩ (fun H locs hP hS => ?_)
    refine lv_iadd hx hb dX7_canJoin_17 ?_
    refine lv_bipush (v := 24) hx hb dX7_canJoin_18 (by decide) ?_
    refine lv_icmp_gt (tgt := 27) hx hb dX7_canJoin_20 (by decide) (fun c9 => ?_) (fun c9 => ?_)
    · replace h := ifp c9 h
      refine lv_iconst (v := 0) hx hb dX7_canJoin_27 (by decide) ?_
      cases h
      exact K1 _ _ _ hP hS (lv_sub hl [] rfl)
    · replace h := ifn c9 h
      refine lv_iconst (v := 1) hx hb dX7_canJoin_23 (by decide) ?_
      refine lv_goto (tgt := 28) hx hb dX7_canJoin_24 (by decide) ?_
      cases h
      exact K1 _ _ _ hP hS (lv_sub hl [] rfl)
set_option maxRecDepth 100000 in
theorem c_X7_canJoin {p : Program} {l : Launch} {e : Env} {R : Room} {s : State} {m : MethodId} {args : Array Value} {below : List Frame} {meth : Method} {c : Code} {H : Heap} {locs : List Loc} {cells slots : Nat} {Q : State → Prop} {cc : ByteArray} {pc index nL : Nat} {ls : Array Slot} {rest : List Value} {D : va_G} {cy : Nat → ClassId} {A0 : Nat → Prop} {S : St} {H0 : Heap} {own : String} {u : Unit} {a0 : Nat} {a1 : Int32} {a2 : Int32} {r : Int32}  (hF : CallFix p m c cc nL s args ALLW own) (hsz : ls.size = nL) (hK : va_K D vwCl (tyL cy) s) (hP : SP D cy S H) (hS : va_S A0 H0 H locs) (hk : Cond.methodLink own index yX7_canJoin ∈ ALLW) (hR : rm_X7_canJoin.frames + 1 ≤ R.frames ∧ 8 + (3 + 11) + rm_X7_canJoin.locals ≤ R.locals) (h : f_X7_canJoin S a0 a1 a2 = some r) (hc : oO S a0 6 = some u) (hW : (rest.map fun v => v.category).sum ≤ 8) (hdg : decode cc pc = .ok (.invokevirtual index, 3)) (hf : cells + 0 ≤ R.cells ∧ slots + 0 ≤ R.slots)
    (kk : ∀ (H1 : Heap) (locs1 : List Loc), SP D cy S H1 → va_S A0 H0 H1 locs1 → W p l e R s m args below meth c H1 locs1 (cells + 0) (slots + 0) Q (F0 m (pc + 3) ls (.int r :: rest))) : W p l e R s m args below meth c H locs cells slots Q (F0 m pc ls (.int a2 :: .int a1 :: .ref a0 :: rest)) := by
  exact k_iVp (As := [.int a1, .int a2]) hF hsz (m_X7_canJoin l D cy S a0 a1 a2 r h) (cwV_of (n := 2) hF.2.2.2.2 hk wd_1070 wd_44 wd_75 wd_1071 rfl rfl (by decide +kernel) hR) rfl hK hP hS (ci := 6) hc rfl hW rfl hdg hf kk
/-- VowBlocksModel.layBoth(II)V -/
def f_X7_layBoth_L7 (y7_0 : Nat) (y7_2 : Int32) : Nat → St → Int32 →  Option (St)
  | 0, _, _ => none
  | fu + 1, S7_, y7_3 =>
    (oO S7_ y7_0 6).bind fun _ =>
    (f_X7_of S7_ y7_0 y7_2 0).bind fun x8 =>
    if x8 ≤ y7_3 then
      some S7_
    else
      (gR S7_ y7_0 6 6).bind fun x10 =>
      (gI S7_ y7_0 6 7).bind fun x12 =>
      (oO S7_ y7_0 6).bind fun _ =>
      (f_X7_of S7_ y7_0 y7_2 (8 + y7_3)).bind fun x16 =>
      (sI S7_ x10 (x12 + y7_3) x16).bind fun Z17 =>
      f_X7_layBoth_L7 y7_0 y7_2 fu Z17 (y7_3 + 1)
def f_X7_layBoth (S : St) (a0 : Nat) (a1 : Int32) (a2 : Int32) : Option (St) :=
  (oO S a0 6).bind fun _ =>
  (f_X7_lay S a0 a1).bind fun z3 =>
  (f_X7_layBoth_L7 a0 a2 FU z3 0).bind fun z4 =>
  (gI z4 a0 6 7).bind fun x20 =>
  (oO z4 a0 6).bind fun _ =>
  (f_X7_of z4 a0 a2 0).bind fun x24 =>
  (pI z4 a0 6 7 (x20 + x24)).bind fun Z25 =>
  some Z25
abbrev rm_X7_layBoth : Room := { frames := 2, cells := 0, slots := 0, locals := 44 }
set_option maxHeartbeats 4000000 in
set_option maxRecDepth 100000 in
theorem m_X7_layBoth (l : Launch) (D : va_G) (cy : Nat → ClassId) (sz : Nat) (S : St) (a0 : Nat) (a1 : Int32) (a2 : Int32) (S1 : St) (h : f_X7_layBoth S a0 a1 a2 = some S1) : Met l yX7_layBoth (wsA yX7_layBoth cX7_layBoth 4 none) rm_X7_layBoth (va_Pc [.ref a0, .int a1, .int a2] (PN D cy S sz)) (va_Qv (fun _ : Unit => True) (fun _ t => PoS D cy S1 (dm S sz) t) (dm S sz)) 0 0 (dm S sz) := by
  refine Met.ofW (cc := cX7_layBoth) (maxL := 4) (ret := none) (by decide) rfl ?_
  intro p e s m args below meth c s₁ B hml hv
  obtain ⟨rfl, hsz, hP, hK⟩ := hv
  have hx := B.exec
  have hb := B.bytes
  have hr := B.returns
  have hts9 := atoms_spec (ws := wsA yX7_layBoth cX7_layBoth 4 none) B.pre
  have hts : ∀ w ∈ ALLW, w.before _ s = true := fun w h => hts9 w (List.mem_cons_of_mem _ h)
  have hown : s.vm.findClass RX7 = some m.cls := findClass_of_methodNamed B.named
  have hlocks := B.notSynchronized
  subst hsz
  have hD : ∀ a, S a ≠ none → dm S s.heap.size a := fun a h => Or.inl h
  have hA : ∀ q : Nat, s.heap.size ≤ q → dm S s.heap.size q := fun q h => Or.inr h
  have hS : va_S (dm S s.heap.size) s.heap s.heap [] := va_S.rf
  have hl := lv_entry [.ref a0, .int a1, .int a2] (n := 4) (Nat.le_of_ble_eq_true rfl)
  rw [lg_entry_eq]
  generalize (lg_sl [.ref a0, .int a1, .int a2] ++ List.replicate (4 - (lg_sl [.ref a0, .int a1, .int a2]).length) Slot.unset).toArray = ls at hl ⊢
  have hl : lv_has ls 4 [(0, .ref a0), (1, .int a1), (2, .int a2)] := hl
  rw [f_X7_layBoth] at h
  refine lv_aload_n hx hb dX7_layBoth_0 rfl (lv_at hl 0 rfl) ?_
  refine lv_iload_n hx hb dX7_layBoth_1 rfl (lv_at hl 1 rfl) ?_
  replace h := bd h
  obtain ⟨_, q1, h⟩ := h
  replace h := bd h
  obtain ⟨z3, q2, h⟩ := h
  refine c_X7_lay ⟨hx, hb, hml, hown, hts⟩ hl.1 hK hP hD hA hS wd_957 ⟨(Nat.le_of_ble_eq_true rfl), (Nat.le_of_ble_eq_true rfl)⟩ q2 q1 (Nat.le_of_ble_eq_true rfl) dX7_layBoth_2 ⟨(Nat.le_of_ble_eq_true rfl), (Nat.le_of_ble_eq_true rfl)⟩ (fun H locs hP hD hS => ?_)
  refine lv_iconst (v := 0) hx hb dX7_layBoth_5 (by decide) ?_
  refine lv_istore_n (lv' := [(3, .int 0), (0, .ref a0), (1, .int a1), (2, .int a2)]) hx hb dX7_layBoth_6 rfl hl (by decide) rfl (fun ls hl => ?_)
  have L7 : ∀ (y7_0 : Nat) (y7_2 : Int32) (fu : Nat) (S7_ : St) (y7_3 : Int32) (res : St), f_X7_layBoth_L7 y7_0 y7_2 fu S7_ y7_3 = some res → ∀ (H : Heap) (locs : List Loc) (ls : Array Slot), SP D cy S7_ H → (∀ a, S7_ a ≠ none → (dm S s.heap.size) a) → va_S (dm S s.heap.size) s.heap H locs → lv_has ls 4 [(0, .ref y7_0), (2, .int y7_2), (3, .int y7_3)] → (∀ (H : Heap) (locs : List Loc) (ls : Array Slot), SP D cy res H → (∀ a, res a ≠ none → (dm S s.heap.size) a) → va_S (dm S s.heap.size) s.heap H locs → lv_has ls 4 [(0, .ref y7_0), (2, .int y7_2)] → W p l e rm_X7_layBoth s m ([.ref a0, .int a1, .int a2] : List Value).toArray below meth c H locs 0 0 (MQ below (va_Qv (fun _ : Unit => True) (fun _ t => PoS D cy S1 (dm S s.heap.size) t) (dm S s.heap.size)) ([.ref a0, .int a1, .int a2] : List Value).toArray s 0 0 (dm S s.heap.size)) (F0 m 43 ls [])) → W p l e rm_X7_layBoth s m ([.ref a0, .int a1, .int a2] : List Value).toArray below meth c H locs 0 0 (MQ below (va_Qv (fun _ : Unit => True) (fun _ t => PoS D cy S1 (dm S s.heap.size) t) (dm S s.heap.size)) ([.ref a0, .int a1, .int a2] : List Value).toArray s 0 0 (dm S s.heap.size)) (F0 m 7 ls []) := by
    intro y7_0 y7_2 fu
    induction fu with
    | zero =>
      intro S7_ y7_3 res h
      rw [f_X7_layBoth_L7] at h
      cases h
    | succ fu ih =>
      intro S7_ y7_3 res h H locs ls hP hD hS hl hexit
      rw [f_X7_layBoth_L7] at h
      refine lv_iload_n hx hb dX7_layBoth_7 rfl (lv_at hl 2 rfl) ?_
      refine lv_aload_n hx hb dX7_layBoth_8 rfl (lv_at hl 0 rfl) ?_
      refine lv_iload_n hx hb dX7_layBoth_9 rfl (lv_at hl 1 rfl) ?_
      refine lv_iconst (v := 0) hx hb dX7_layBoth_10 (by decide) ?_
      replace h := bd h
      obtain ⟨_, q6, h⟩ := h
      replace h := bd h
      obtain ⟨x8, q7, h⟩ := h
      refine c_X7_of ⟨hx, hb, hml, hown, hts⟩ hl.1 hK hP hS wd_961 ⟨(Nat.le_of_ble_eq_true rfl), (Nat.le_of_ble_eq_true rfl)⟩ q7 q6 (Nat.le_of_ble_eq_true rfl) dX7_layBoth_11 ⟨(Nat.le_of_ble_eq_true rfl), (Nat.le_of_ble_eq_true rfl)⟩ (fun H locs hP hS => ?_)
      refine lv_icmp_ge (tgt := 43) hx hb dX7_layBoth_14 (by decide) (fun c9 => ?_) (fun c9 => ?_)
      · replace h := ifp c9 h
        cases h
        exact hexit _ _ _ hP hD hS (lv_sub hl [0, 1] rfl)
      · replace h := ifn c9 h
        refine lv_aload_n hx hb dX7_layBoth_17 rfl (lv_at hl 0 rfl) ?_
        replace h := bd h
        obtain ⟨x10, q11, h⟩ := h
        refine fg_6_6 hx hb hts hown hK hP wd_893 q11 dX7_layBoth_18 ?_
        refine lv_aload_n hx hb dX7_layBoth_21 rfl (lv_at hl 0 rfl) ?_
        replace h := bd h
        obtain ⟨x12, q13, h⟩ := h
        refine fg_6_7 hx hb hts hown hK hP wd_894 q13 dX7_layBoth_22 ?_
        refine lv_iload_n hx hb dX7_layBoth_25 rfl (lv_at hl 2 rfl) ?_
        refine lv_iadd hx hb dX7_layBoth_26 ?_
        refine lv_aload_n hx hb dX7_layBoth_27 rfl (lv_at hl 0 rfl) ?_
        refine lv_iload_n hx hb dX7_layBoth_28 rfl (lv_at hl 1 rfl) ?_
        refine lv_bipush (v := 8) hx hb dX7_layBoth_29 (by decide) ?_
        refine lv_iload_n hx hb dX7_layBoth_31 rfl (lv_at hl 2 rfl) ?_
        refine lv_iadd hx hb dX7_layBoth_32 ?_
        replace h := bd h
        obtain ⟨_, q14, h⟩ := h
        replace h := bd h
        obtain ⟨x16, q15, h⟩ := h
        refine c_X7_of ⟨hx, hb, hml, hown, hts⟩ hl.1 hK hP hS wd_961 ⟨(Nat.le_of_ble_eq_true rfl), (Nat.le_of_ble_eq_true rfl)⟩ q15 q14 (Nat.le_of_ble_eq_true rfl) dX7_layBoth_33 ⟨(Nat.le_of_ble_eq_true rfl), (Nat.le_of_ble_eq_true rfl)⟩ (fun H locs hP hS => ?_)
        replace h := bd h
        obtain ⟨Z17, q18, h⟩ := h
        refine r_sI hx hb hK hP hD hS q18 dX7_layBoth_36 (fun H locs hz9 hP hD hS => ?_)
        refine lv_iinc (v := (y7_3 + 1)) (lv' := [(3, .int (y7_3 + 1)), (0, .ref y7_0), (2, .int y7_2)]) hx hb dX7_layBoth_37 hl (k := 2) rfl rfl (by decide) rfl (fun ls hl => ?_)
        refine lv_goto (tgt := 7) hx hb dX7_layBoth_40 (by decide) ?_
        exact ih Z17 (y7_3 + 1) _ h _ _ _ hP hD hS (lv_sub hl [1, 2, 0] rfl) hexit
  replace h := bd h
  obtain ⟨z4, q19, h⟩ := h
  refine L7 a0 a2 FU z3 0 z4 q19 _ _ _ hP hD hS (lv_sub hl [1, 3, 0] rfl) (fun H locs ls hP hD hS hl => ?_)
  refine lv_aload_n hx hb dX7_layBoth_43 rfl (lv_at hl 0 rfl) ?_
  refine lv_dup hx hb dX7_layBoth_44 rfl ?_
  replace h := bd h
  obtain ⟨x20, q21, h⟩ := h
  refine fg_6_7 hx hb hts hown hK hP wd_894 q21 dX7_layBoth_45 ?_
  refine lv_aload_n hx hb dX7_layBoth_48 rfl (lv_at hl 0 rfl) ?_
  refine lv_iload_n hx hb dX7_layBoth_49 rfl (lv_at hl 1 rfl) ?_
  refine lv_iconst (v := 0) hx hb dX7_layBoth_50 (by decide) ?_
  replace h := bd h
  obtain ⟨_, q22, h⟩ := h
  replace h := bd h
  obtain ⟨x24, q23, h⟩ := h
  refine c_X7_of ⟨hx, hb, hml, hown, hts⟩ hl.1 hK hP hS wd_961 ⟨(Nat.le_of_ble_eq_true rfl), (Nat.le_of_ble_eq_true rfl)⟩ q23 q22 (Nat.le_of_ble_eq_true rfl) dX7_layBoth_51 ⟨(Nat.le_of_ble_eq_true rfl), (Nat.le_of_ble_eq_true rfl)⟩ (fun H locs hP hS => ?_)
  refine lv_iadd hx hb dX7_layBoth_54 ?_
  replace h := bd h
  obtain ⟨Z25, q26, h⟩ := h
  refine fp_6_7 hx hb hts hown hK hP hD hS wd_894 q26 dX7_layBoth_55 (fun H locs hz9 hP hD hS => ?_)
  cases h
  exact e_vm hx hb hlocks hr hP hD hS (Nat.le_of_ble_eq_true rfl) (Nat.le_of_ble_eq_true rfl) dX7_layBoth_58
set_option maxRecDepth 100000 in
theorem c_X7_layBoth {p : Program} {l : Launch} {e : Env} {R : Room} {s : State} {m : MethodId} {args : Array Value} {below : List Frame} {meth : Method} {c : Code} {H : Heap} {locs : List Loc} {cells slots : Nat} {Q : State → Prop} {cc : ByteArray} {pc index nL : Nat} {ls : Array Slot} {rest : List Value} {D : va_G} {cy : Nat → ClassId} {A0 : Nat → Prop} {S : St} {H0 : Heap} {own : String} {u : Unit} {a0 : Nat} {a1 : Int32} {a2 : Int32} {S1 : St}  (hF : CallFix p m c cc nL s args ALLW own) (hsz : ls.size = nL) (hK : va_K D vwCl (tyL cy) s) (hP : SP D cy S H) (hD : ∀ a, S a ≠ none → A0 a) (hA : ∀ q, H0.size ≤ q → A0 q) (hS : va_S A0 H0 H locs) (hk : Cond.methodLink own index yX7_layBoth ∈ ALLW) (hR : rm_X7_layBoth.frames + 1 ≤ R.frames ∧ 8 + (4 + 11) + rm_X7_layBoth.locals ≤ R.locals) (h : f_X7_layBoth S a0 a1 a2 = some S1) (hc : oO S a0 6 = some u) (hW : (rest.map fun v => v.category).sum ≤ 8) (hdg : decode cc pc = .ok (.invokevirtual index, 3)) (hf : cells + 0 ≤ R.cells ∧ slots + 0 ≤ R.slots)
    (kk : ∀ (H1 : Heap) (locs1 : List Loc), SP D cy S1 H1 → (∀ a, S1 a ≠ none → A0 a) → va_S A0 H0 H1 locs1 → W p l e R s m args below meth c H1 locs1 (cells + 0) (slots + 0) Q (F0 m (pc + 3) ls (rest))) : W p l e R s m args below meth c H locs cells slots Q (F0 m pc ls (.int a2 :: .int a1 :: .ref a0 :: rest)) := by
  exact k_vVm (As := [.int a1, .int a2]) hF hsz (m_X7_layBoth l D cy H.size S a0 a1 a2 S1 h) (cwV_of (n := 2) hF.2.2.2.2 hk wd_1074 wd_45 wd_75 wd_1075 rfl rfl (by decide +kernel) hR) rfl hK hP hD hA hS (ci := 6) hc rfl hW rfl hdg hf kk
/-- VowBlocksModel.remove(I)V -/
def f_X7_remove_L17 (y17_0 : Nat) : Nat → St → Int32 →  Option (St)
  | 0, _, _ => none
  | fu + 1, S17_, y17_2 =>
    (gR S17_ y17_0 6 0).bind fun x9 =>
    (aI S17_ x9 2).bind fun x11 =>
    if (4 + (32 * x11)) ≤ y17_2 then
      some S17_
    else
      (gR S17_ y17_0 6 0).bind fun x14 =>
      (gR S17_ y17_0 6 0).bind fun x16 =>
      (aI S17_ x16 (y17_2 + 32)).bind fun x18 =>
      (sI S17_ x14 y17_2 x18).bind fun Z20 =>
      f_X7_remove_L17 y17_0 fu Z20 (y17_2 + 1)
def f_X7_remove (S : St) (a0 : Nat) (a1 : Int32) : Option (St) :=
  (gR S a0 6 0).bind fun x1 =>
  (aI S x1 2).bind fun x3 =>
  (sI S x1 2 (x3 - 1)).bind fun Z5 =>
  (f_X7_remove_L17 a0 FU Z5 (4 + (32 * a1))).bind fun z7 =>
  some z7
abbrev rm_X7_remove : Room := { frames := 0, cells := 0, slots := 0, locals := 0 }
set_option maxHeartbeats 4000000 in
set_option maxRecDepth 100000 in
theorem m_X7_remove (l : Launch) (D : va_G) (cy : Nat → ClassId) (sz : Nat) (S : St) (a0 : Nat) (a1 : Int32) (S1 : St) (h : f_X7_remove S a0 a1 = some S1) : Met l yX7_remove (wsA yX7_remove cX7_remove 3 none) rm_X7_remove (va_Pc [.ref a0, .int a1] (PN D cy S sz)) (va_Qv (fun _ : Unit => True) (fun _ t => PoS D cy S1 (dm S sz) t) (dm S sz)) 0 0 (dm S sz) := by
  refine Met.ofW (cc := cX7_remove) (maxL := 3) (ret := none) (by decide) rfl ?_
  intro p e s m args below meth c s₁ B hml hv
  obtain ⟨rfl, hsz, hP, hK⟩ := hv
  have hx := B.exec
  have hb := B.bytes
  have hr := B.returns
  have hts9 := atoms_spec (ws := wsA yX7_remove cX7_remove 3 none) B.pre
  have hts : ∀ w ∈ ALLW, w.before _ s = true := fun w h => hts9 w (List.mem_cons_of_mem _ h)
  have hown : s.vm.findClass RX7 = some m.cls := findClass_of_methodNamed B.named
  have hlocks := B.notSynchronized
  subst hsz
  have hD : ∀ a, S a ≠ none → dm S s.heap.size a := fun a h => Or.inl h
  have hA : ∀ q : Nat, s.heap.size ≤ q → dm S s.heap.size q := fun q h => Or.inr h
  have hS : va_S (dm S s.heap.size) s.heap s.heap [] := va_S.rf
  have hl := lv_entry [.ref a0, .int a1] (n := 3) (Nat.le_of_ble_eq_true rfl)
  rw [lg_entry_eq]
  generalize (lg_sl [.ref a0, .int a1] ++ List.replicate (3 - (lg_sl [.ref a0, .int a1]).length) Slot.unset).toArray = ls at hl ⊢
  have hl : lv_has ls 3 [(0, .ref a0), (1, .int a1)] := hl
  rw [f_X7_remove] at h
  refine lv_aload_n hx hb dX7_remove_0 rfl (lv_at hl 0 rfl) ?_
  replace h := bd h
  obtain ⟨x1, q2, h⟩ := h
  refine fg_6_0 hx hb hts hown hK hP wd_887 q2 dX7_remove_1 ?_
  refine lv_iconst (v := 2) hx hb dX7_remove_4 (by decide) ?_
  refine lv_dup2_11 hx hb dX7_remove_5 rfl rfl ?_
  replace h := bd h
  obtain ⟨x3, q4, h⟩ := h
  refine r_aI hx hb hK hP q4 dX7_remove_6 ?_
  refine lv_iconst (v := 1) hx hb dX7_remove_7 (by decide) ?_
  refine lv_isub hx hb dX7_remove_8 ?_
  replace h := bd h
  obtain ⟨Z5, q6, h⟩ := h
  refine r_sI hx hb hK hP hD hS q6 dX7_remove_9 (fun H locs hz9 hP hD hS => ?_)
  refine lv_iconst (v := 4) hx hb dX7_remove_10 (by decide) ?_
  refine lv_bipush (v := 32) hx hb dX7_remove_11 (by decide) ?_
  refine lv_iload_n hx hb dX7_remove_13 rfl (lv_at hl 1 rfl) ?_
  refine lv_imul hx hb dX7_remove_14 ?_
  refine lv_iadd hx hb dX7_remove_15 ?_
  refine lv_istore_n (lv' := [(2, .int (4 + (32 * a1))), (0, .ref a0), (1, .int a1)]) hx hb dX7_remove_16 rfl hl (by decide) rfl (fun ls hl => ?_)
  have L17 : ∀ (y17_0 : Nat) (fu : Nat) (S17_ : St) (y17_2 : Int32) (res : St), f_X7_remove_L17 y17_0 fu S17_ y17_2 = some res → ∀ (H : Heap) (locs : List Loc) (ls : Array Slot), SP D cy S17_ H → (∀ a, S17_ a ≠ none → (dm S s.heap.size) a) → va_S (dm S s.heap.size) s.heap H locs → lv_has ls 3 [(0, .ref y17_0), (2, .int y17_2)] → (∀ (H : Heap) (locs : List Loc) (ls : Array Slot), SP D cy res H → (∀ a, res a ≠ none → (dm S s.heap.size) a) → va_S (dm S s.heap.size) s.heap H locs → lv_has ls 3 [] → W p l e rm_X7_remove s m ([.ref a0, .int a1] : List Value).toArray below meth c H locs 0 0 (MQ below (va_Qv (fun _ : Unit => True) (fun _ t => PoS D cy S1 (dm S s.heap.size) t) (dm S s.heap.size)) ([.ref a0, .int a1] : List Value).toArray s 0 0 (dm S s.heap.size)) (F0 m 53 ls [])) → W p l e rm_X7_remove s m ([.ref a0, .int a1] : List Value).toArray below meth c H locs 0 0 (MQ below (va_Qv (fun _ : Unit => True) (fun _ t => PoS D cy S1 (dm S s.heap.size) t) (dm S s.heap.size)) ([.ref a0, .int a1] : List Value).toArray s 0 0 (dm S s.heap.size)) (F0 m 17 ls []) := by
    intro y17_0 fu
    induction fu with
    | zero =>
      intro S17_ y17_2 res h
      rw [f_X7_remove_L17] at h
      cases h
    | succ fu ih =>
      intro S17_ y17_2 res h H locs ls hP hD hS hl hexit
      rw [f_X7_remove_L17] at h
      refine lv_iload_n hx hb dX7_remove_17 rfl (lv_at hl 1 rfl) ?_
      refine lv_iconst (v := 4) hx hb dX7_remove_18 (by decide) ?_
      refine lv_bipush (v := 32) hx hb dX7_remove_19 (by decide) ?_
      refine lv_aload_n hx hb dX7_remove_21 rfl (lv_at hl 0 rfl) ?_
      replace h := bd h
      obtain ⟨x9, q10, h⟩ := h
      refine fg_6_0 hx hb hts hown hK hP wd_887 q10 dX7_remove_22 ?_
      refine lv_iconst (v := 2) hx hb dX7_remove_25 (by decide) ?_
      replace h := bd h
      obtain ⟨x11, q12, h⟩ := h
      refine r_aI hx hb hK hP q12 dX7_remove_26 ?_
      refine lv_imul hx hb dX7_remove_27 ?_
      refine lv_iadd hx hb dX7_remove_28 ?_
      refine lv_icmp_ge (tgt := 53) hx hb dX7_remove_29 (by decide) (fun c13 => ?_) (fun c13 => ?_)
      · replace h := ifp c13 h
        cases h
        exact hexit _ _ _ hP hD hS (lv_sub hl [] rfl)
      · replace h := ifn c13 h
        refine lv_aload_n hx hb dX7_remove_32 rfl (lv_at hl 0 rfl) ?_
        replace h := bd h
        obtain ⟨x14, q15, h⟩ := h
        refine fg_6_0 hx hb hts hown hK hP wd_887 q15 dX7_remove_33 ?_
        refine lv_iload_n hx hb dX7_remove_36 rfl (lv_at hl 1 rfl) ?_
        refine lv_aload_n hx hb dX7_remove_37 rfl (lv_at hl 0 rfl) ?_
        replace h := bd h
        obtain ⟨x16, q17, h⟩ := h
        refine fg_6_0 hx hb hts hown hK hP wd_887 q17 dX7_remove_38 ?_
        refine lv_iload_n hx hb dX7_remove_41 rfl (lv_at hl 1 rfl) ?_
        refine lv_bipush (v := 32) hx hb dX7_remove_42 (by decide) ?_
        refine lv_iadd hx hb dX7_remove_44 ?_
        replace h := bd h
        obtain ⟨x18, q19, h⟩ := h
        refine r_aI hx hb hK hP q19 dX7_remove_45 ?_
        replace h := bd h
        obtain ⟨Z20, q21, h⟩ := h
        refine r_sI hx hb hK hP hD hS q21 dX7_remove_46 (fun H locs hz9 hP hD hS => ?_)
        refine lv_iinc (v := (y17_2 + 1)) (lv' := [(2, .int (y17_2 + 1)), (0, .ref y17_0)]) hx hb dX7_remove_47 hl (k := 1) rfl rfl (by decide) rfl (fun ls hl => ?_)
        refine lv_goto (tgt := 17) hx hb dX7_remove_50 (by decide) ?_
        exact ih Z20 (y17_2 + 1) _ h _ _ _ hP hD hS (lv_sub hl [1, 0] rfl) hexit
  replace h := bd h
  obtain ⟨z7, q22, h⟩ := h
  refine L17 a0 FU Z5 (4 + (32 * a1)) z7 q22 _ _ _ hP hD hS (lv_sub hl [1, 0] rfl) (fun H locs ls hP hD hS hl => ?_)
  cases h
  exact e_vm hx hb hlocks hr hP hD hS (Nat.le_of_ble_eq_true rfl) (Nat.le_of_ble_eq_true rfl) dX7_remove_53
set_option maxRecDepth 100000 in
theorem c_X7_remove {p : Program} {l : Launch} {e : Env} {R : Room} {s : State} {m : MethodId} {args : Array Value} {below : List Frame} {meth : Method} {c : Code} {H : Heap} {locs : List Loc} {cells slots : Nat} {Q : State → Prop} {cc : ByteArray} {pc index nL : Nat} {ls : Array Slot} {rest : List Value} {D : va_G} {cy : Nat → ClassId} {A0 : Nat → Prop} {S : St} {H0 : Heap} {own : String} {u : Unit} {a0 : Nat} {a1 : Int32} {S1 : St}  (hF : CallFix p m c cc nL s args ALLW own) (hsz : ls.size = nL) (hK : va_K D vwCl (tyL cy) s) (hP : SP D cy S H) (hD : ∀ a, S a ≠ none → A0 a) (hA : ∀ q, H0.size ≤ q → A0 q) (hS : va_S A0 H0 H locs) (hk : Cond.methodLink own index yX7_remove ∈ ALLW) (hR : rm_X7_remove.frames + 1 ≤ R.frames ∧ 8 + (3 + 11) + rm_X7_remove.locals ≤ R.locals) (h : f_X7_remove S a0 a1 = some S1) (hc : oO S a0 6 = some u) (hW : (rest.map fun v => v.category).sum ≤ 8) (hdg : decode cc pc = .ok (.invokevirtual index, 3)) (hf : cells + 0 ≤ R.cells ∧ slots + 0 ≤ R.slots)
    (kk : ∀ (H1 : Heap) (locs1 : List Loc), SP D cy S1 H1 → (∀ a, S1 a ≠ none → A0 a) → va_S A0 H0 H1 locs1 → W p l e R s m args below meth c H1 locs1 (cells + 0) (slots + 0) Q (F0 m (pc + 3) ls (rest))) : W p l e R s m args below meth c H locs cells slots Q (F0 m pc ls (.int a1 :: .ref a0 :: rest)) := by
  exact k_vVm (As := [.int a1]) hF hsz (m_X7_remove l D cy H.size S a0 a1 S1 h) (cwV_of (n := 1) hF.2.2.2.2 hk wd_1078 wd_46 wd_75 wd_1079 rfl rfl (by decide +kernel) hR) rfl hK hP hD hA hS (ci := 6) hc rfl hW rfl hdg hf kk
/-- VowBlocksModel.join(II)I -/
def f_X7_join_L68 (y68_0 : Nat) (y68_1 : Int32) (y68_2 : Int32) : Nat → St → Int32 →  Option (St)
  | 0, _, _ => none
  | fu + 1, S68_, y68_3 =>
    (gI S68_ y68_0 6 7).bind fun x28 =>
    if x28 ≤ y68_3 then
      some S68_
    else
      (gR S68_ y68_0 6 6).bind fun x31 =>
      (aI S68_ x31 y68_3).bind fun x33 =>
      (oO S68_ y68_0 6).bind fun _ =>
      (f_X7_setOf S68_ y68_0 y68_1 (8 + y68_3) x33).bind fun z37 =>
      f_X7_join_L68 y68_0 y68_1 y68_2 fu z37 (y68_3 + 1)
def f_X7_join (S : St) (a0 : Nat) (a1 : Int32) (a2 : Int32) : Option (Int32 × St) :=
  (oO S a0 6).bind fun _ =>
  (f_X7_isBlock S a0 a1).bind fun x3 =>
  (
    if x3 = 0 then
      some 1
    else
      (oO S a0 6).bind fun _ =>
      (f_X7_isBlock S a0 a2).bind fun x8 =>
      if x8 = 0 then
        some 1
      else
        if a1 = a2 then
          some 2
        else
          (oO S a0 6).bind fun _ =>
          (f_X7_canJoin S a0 a1 a2).bind fun x13 =>
          if x13 = 0 then
            some 3
          else
            some 0
  : Option (Int32)).bind fun t4 =>
  (pI S a0 6 5 t4).bind fun Z15 =>
  (gI Z15 a0 6 5).bind fun x17 =>
  if x17 ≤ 0 then
    (oO Z15 a0 6).bind fun _ =>
    (f_X7_save Z15 a0).bind fun z22 =>
    (oO z22 a0 6).bind fun _ =>
    (f_X7_layBoth z22 a0 a1 a2).bind fun z25 =>
    (f_X7_join_L68 a0 a1 a2 FU z25 0).bind fun z26 =>
    (gI z26 a0 6 7).bind fun x39 =>
    (oO z26 a0 6).bind fun _ =>
    (f_X7_setOf z26 a0 a1 0 x39).bind fun z43 =>
    (oO z43 a0 6).bind fun _ =>
    (f_X7_of z43 a0 a1 3).bind fun x46 =>
    (oO z43 a0 6).bind fun _ =>
    (f_X7_of z43 a0 a2 3).bind fun x49 =>
    (oO z43 a0 6).bind fun _ =>
    (f_X7_setOf z43 a0 a1 3 (x46 + x49)).bind fun z52 =>
    (oO z52 a0 6).bind fun _ =>
    (f_X7_of z52 a0 a1 4).bind fun x55 =>
    (oO z52 a0 6).bind fun _ =>
    (f_X7_of z52 a0 a2 4).bind fun x58 =>
    (oO z52 a0 6).bind fun _ =>
    (f_X7_setOf z52 a0 a1 4 (x55 + x58)).bind fun z61 =>
    (oO z61 a0 6).bind fun _ =>
    (f_X7_of z61 a0 a1 6).bind fun x64 =>
    (oO z61 a0 6).bind fun _ =>
    (f_X7_of z61 a0 a2 6).bind fun x67 =>
    (oO z61 a0 6).bind fun _ =>
    (f_X7_setOf z61 a0 a1 6 (x64 + x67)).bind fun z70 =>
    (oO z70 a0 6).bind fun _ =>
    (f_X7_remove z70 a0 a2).bind fun z73 =>
    (
      if a1 ≤ a2 then
        some a1
      else
        some (a1 - 1)
    : Option (Int32)).bind fun t74 =>
    some (t74, z73)
  else
    some (0, Z15)
abbrev rm_X7_join : Room := { frames := 3, cells := 0, slots := 0, locals := 67 }
set_option maxHeartbeats 4000000 in
set_option maxRecDepth 100000 in
theorem m_X7_join (l : Launch) (D : va_G) (cy : Nat → ClassId) (sz : Nat) (S : St) (a0 : Nat) (a1 : Int32) (a2 : Int32) (r : Int32) (S1 : St) (h : f_X7_join S a0 a1 a2 = some (r, S1)) : Met l yX7_join (wsA yX7_join cX7_join 4 (some .int)) rm_X7_join (va_Pc [.ref a0, .int a1, .int a2] (PN D cy S sz)) (va_Qi (fun r' (_ : Unit) => r' = r) (fun _ t => PoS D cy S1 (dm S sz) t) (dm S sz)) 0 0 (dm S sz) := by
  refine Met.ofW (cc := cX7_join) (maxL := 4) (ret := (some .int)) (by decide) rfl ?_
  intro p e s m args below meth c s₁ B hml hv
  obtain ⟨rfl, hsz, hP, hK⟩ := hv
  have hx := B.exec
  have hb := B.bytes
  have hr := B.returns
  have hts9 := atoms_spec (ws := wsA yX7_join cX7_join 4 (some .int)) B.pre
  have hts : ∀ w ∈ ALLW, w.before _ s = true := fun w h => hts9 w (List.mem_cons_of_mem _ h)
  have hown : s.vm.findClass RX7 = some m.cls := findClass_of_methodNamed B.named
  have hlocks := B.notSynchronized
  subst hsz
  have hD : ∀ a, S a ≠ none → dm S s.heap.size a := fun a h => Or.inl h
  have hA : ∀ q : Nat, s.heap.size ≤ q → dm S s.heap.size q := fun q h => Or.inr h
  have hS : va_S (dm S s.heap.size) s.heap s.heap [] := va_S.rf
  have hl := lv_entry [.ref a0, .int a1, .int a2] (n := 4) (Nat.le_of_ble_eq_true rfl)
  rw [lg_entry_eq]
  generalize (lg_sl [.ref a0, .int a1, .int a2] ++ List.replicate (4 - (lg_sl [.ref a0, .int a1, .int a2]).length) Slot.unset).toArray = ls at hl ⊢
  have hl : lv_has ls 4 [(0, .ref a0), (1, .int a1), (2, .int a2)] := hl
  rw [f_X7_join] at h
  refine lv_aload_n hx hb dX7_join_0 rfl (lv_at hl 0 rfl) ?_
  refine lv_aload_n hx hb dX7_join_1 rfl (lv_at hl 0 rfl) ?_
  refine lv_iload_n hx hb dX7_join_2 rfl (lv_at hl 1 rfl) ?_
  replace h := bd h
  obtain ⟨_, q1, h⟩ := h
  replace h := bd h
  obtain ⟨x3, q2, h⟩ := h
  refine c_X7_isBlock ⟨hx, hb, hml, hown, hts⟩ hl.1 hK hP hS wd_1044 ⟨(Nat.le_of_ble_eq_true rfl), (Nat.le_of_ble_eq_true rfl)⟩ q2 q1 (Nat.le_of_ble_eq_true rfl) dX7_join_3 ⟨(Nat.le_of_ble_eq_true rfl), (Nat.le_of_ble_eq_true rfl)⟩ (fun H locs hP hS => ?_)
  replace h := bd h
  obtain ⟨t4, ht, h⟩ := h
  have K4 : ∀ (H : Heap) (locs : List Loc) (ls : Array Slot), SP D cy S H → (∀ a, S a ≠ none → (dm S s.heap.size) a) → va_S (dm S s.heap.size) s.heap H locs → lv_has ls 4 [(0, .ref a0), (1, .int a1), (2, .int a2)] → W p l e rm_X7_join s m ([.ref a0, .int a1, .int a2] : List Value).toArray below meth c H locs 0 0 (MQ below (va_Qi (fun r' (_ : Unit) => r' = r) (fun _ t => PoS D cy S1 (dm S s.heap.size) t) (dm S s.heap.size)) ([.ref a0, .int a1, .int a2] : List Value).toArray s 0 0 (dm S s.heap.size)) (F0 m 44 ls [.int t4, .ref a0]) := by
    intro H locs ls hP hD hS hl
    replace h := bd h
    obtain ⟨Z15, q16, h⟩ := h
    refine fp_6_5 hx hb hts hown hK hP hD hS wd_892 q16 dX7_join_44 (fun H locs hz9 hP hD hS => ?_)
    refine lv_aload_n hx hb dX7_join_47 rfl (lv_at hl 0 rfl) ?_
    replace h := bd h
    obtain ⟨x17, q18, h⟩ := h
    refine fg_6_5 hx hb hts hown hK hP wd_892 q18 dX7_join_48 ?_
    refine lv_if_le (tgt := 56) hx hb dX7_join_51 (by decide) (fun c19 => ?_) (fun c19 => ?_)
    · replace h := ifp c19 h
      refine lv_aload_n hx hb dX7_join_56 rfl (lv_at hl 0 rfl) ?_
      replace h := bd h
      obtain ⟨_, q20, h⟩ := h
      replace h := bd h
      obtain ⟨z22, q21, h⟩ := h
      refine c_X7_save ⟨hx, hb, hml, hown, hts⟩ hl.1 hK hP hD hA hS wd_941 ⟨(Nat.le_of_ble_eq_true rfl), (Nat.le_of_ble_eq_true rfl)⟩ q21 q20 (Nat.le_of_ble_eq_true rfl) dX7_join_57 ⟨(Nat.le_of_ble_eq_true rfl), (Nat.le_of_ble_eq_true rfl)⟩ (fun H locs hP hD hS => ?_)
      refine lv_aload_n hx hb dX7_join_60 rfl (lv_at hl 0 rfl) ?_
      refine lv_iload_n hx hb dX7_join_61 rfl (lv_at hl 1 rfl) ?_
      refine lv_iload_n hx hb dX7_join_62 rfl (lv_at hl 2 rfl) ?_
      replace h := bd h
      obtain ⟨_, q23, h⟩ := h
      replace h := bd h
      obtain ⟨z25, q24, h⟩ := h
      refine c_X7_layBoth ⟨hx, hb, hml, hown, hts⟩ hl.1 hK hP hD hA hS wd_1072 ⟨(Nat.le_of_ble_eq_true rfl), (Nat.le_of_ble_eq_true rfl)⟩ q24 q23 (Nat.le_of_ble_eq_true rfl) dX7_join_63 ⟨(Nat.le_of_ble_eq_true rfl), (Nat.le_of_ble_eq_true rfl)⟩ (fun H locs hP hD hS => ?_)
      refine lv_iconst (v := 0) hx hb dX7_join_66 (by decide) ?_
      refine lv_istore_n (lv' := [(3, .int 0), (0, .ref a0), (1, .int a1), (2, .int a2)]) hx hb dX7_join_67 rfl hl (by decide) rfl (fun ls hl => ?_)
      have L68 : ∀ (y68_0 : Nat) (y68_1 : Int32) (y68_2 : Int32) (fu : Nat) (S68_ : St) (y68_3 : Int32) (res : St), f_X7_join_L68 y68_0 y68_1 y68_2 fu S68_ y68_3 = some res → ∀ (H : Heap) (locs : List Loc) (ls : Array Slot), SP D cy S68_ H → (∀ a, S68_ a ≠ none → (dm S s.heap.size) a) → va_S (dm S s.heap.size) s.heap H locs → lv_has ls 4 [(0, .ref y68_0), (1, .int y68_1), (2, .int y68_2), (3, .int y68_3)] → (∀ (H : Heap) (locs : List Loc) (ls : Array Slot), SP D cy res H → (∀ a, res a ≠ none → (dm S s.heap.size) a) → va_S (dm S s.heap.size) s.heap H locs → lv_has ls 4 [(0, .ref y68_0), (1, .int y68_1), (2, .int y68_2)] → W p l e rm_X7_join s m ([.ref a0, .int a1, .int a2] : List Value).toArray below meth c H locs 0 0 (MQ below (va_Qi (fun r' (_ : Unit) => r' = r) (fun _ t => PoS D cy S1 (dm S s.heap.size) t) (dm S s.heap.size)) ([.ref a0, .int a1, .int a2] : List Value).toArray s 0 0 (dm S s.heap.size)) (F0 m 97 ls [])) → W p l e rm_X7_join s m ([.ref a0, .int a1, .int a2] : List Value).toArray below meth c H locs 0 0 (MQ below (va_Qi (fun r' (_ : Unit) => r' = r) (fun _ t => PoS D cy S1 (dm S s.heap.size) t) (dm S s.heap.size)) ([.ref a0, .int a1, .int a2] : List Value).toArray s 0 0 (dm S s.heap.size)) (F0 m 68 ls []) := by
        intro y68_0 y68_1 y68_2 fu
        induction fu with
        | zero =>
          intro S68_ y68_3 res h
          rw [f_X7_join_L68] at h
          cases h
        | succ fu ih =>
          intro S68_ y68_3 res h H locs ls hP hD hS hl hexit
          rw [f_X7_join_L68] at h
          refine lv_iload_n hx hb dX7_join_68 rfl (lv_at hl 3 rfl) ?_
          refine lv_aload_n hx hb dX7_join_69 rfl (lv_at hl 0 rfl) ?_
          replace h := bd h
          obtain ⟨x28, q29, h⟩ := h
          refine fg_6_7 hx hb hts hown hK hP wd_894 q29 dX7_join_70 ?_
          refine lv_icmp_ge (tgt := 97) hx hb dX7_join_73 (by decide) (fun c30 => ?_) (fun c30 => ?_)
          · replace h := ifp c30 h
            cases h
            exact hexit _ _ _ hP hD hS (lv_sub hl [0, 1, 2] rfl)
          · replace h := ifn c30 h
            refine lv_aload_n hx hb dX7_join_76 rfl (lv_at hl 0 rfl) ?_
            refine lv_iload_n hx hb dX7_join_77 rfl (lv_at hl 1 rfl) ?_
            refine lv_bipush (v := 8) hx hb dX7_join_78 (by decide) ?_
            refine lv_iload_n hx hb dX7_join_80 rfl (lv_at hl 3 rfl) ?_
            refine lv_iadd hx hb dX7_join_81 ?_
            refine lv_aload_n hx hb dX7_join_82 rfl (lv_at hl 0 rfl) ?_
            replace h := bd h
            obtain ⟨x31, q32, h⟩ := h
            refine fg_6_6 hx hb hts hown hK hP wd_893 q32 dX7_join_83 ?_
            refine lv_iload_n hx hb dX7_join_86 rfl (lv_at hl 3 rfl) ?_
            replace h := bd h
            obtain ⟨x33, q34, h⟩ := h
            refine r_aI hx hb hK hP q34 dX7_join_87 ?_
            replace h := bd h
            obtain ⟨_, q35, h⟩ := h
            replace h := bd h
            obtain ⟨z37, q36, h⟩ := h
            refine c_X7_setOf ⟨hx, hb, hml, hown, hts⟩ hl.1 hK hP hD hA hS wd_949 ⟨(Nat.le_of_ble_eq_true rfl), (Nat.le_of_ble_eq_true rfl)⟩ q36 q35 (Nat.le_of_ble_eq_true rfl) dX7_join_88 ⟨(Nat.le_of_ble_eq_true rfl), (Nat.le_of_ble_eq_true rfl)⟩ (fun H locs hP hD hS => ?_)
            refine lv_iinc (v := (y68_3 + 1)) (lv' := [(3, .int (y68_3 + 1)), (0, .ref y68_0), (1, .int y68_1), (2, .int y68_2)]) hx hb dX7_join_91 hl (k := 3) rfl rfl (by decide) rfl (fun ls hl => ?_)
            refine lv_goto (tgt := 68) hx hb dX7_join_94 (by decide) ?_
            exact ih z37 (y68_3 + 1) _ h _ _ _ hP hD hS (lv_sub hl [1, 2, 3, 0] rfl) hexit
      replace h := bd h
      obtain ⟨z26, q38, h⟩ := h
      refine L68 a0 a1 a2 FU z25 0 z26 q38 _ _ _ hP hD hS (lv_sub hl [1, 2, 3, 0] rfl) (fun H locs ls hP hD hS hl => ?_)
      refine lv_aload_n hx hb dX7_join_97 rfl (lv_at hl 0 rfl) ?_
      refine lv_iload_n hx hb dX7_join_98 rfl (lv_at hl 1 rfl) ?_
      refine lv_iconst (v := 0) hx hb dX7_join_99 (by decide) ?_
      refine lv_aload_n hx hb dX7_join_100 rfl (lv_at hl 0 rfl) ?_
      replace h := bd h
      obtain ⟨x39, q40, h⟩ := h
      refine fg_6_7 hx hb hts hown hK hP wd_894 q40 dX7_join_101 ?_
      replace h := bd h
      obtain ⟨_, q41, h⟩ := h
      replace h := bd h
      obtain ⟨z43, q42, h⟩ := h
      refine c_X7_setOf ⟨hx, hb, hml, hown, hts⟩ hl.1 hK hP hD hA hS wd_949 ⟨(Nat.le_of_ble_eq_true rfl), (Nat.le_of_ble_eq_true rfl)⟩ q42 q41 (Nat.le_of_ble_eq_true rfl) dX7_join_104 ⟨(Nat.le_of_ble_eq_true rfl), (Nat.le_of_ble_eq_true rfl)⟩ (fun H locs hP hD hS => ?_)
      refine lv_aload_n hx hb dX7_join_107 rfl (lv_at hl 0 rfl) ?_
      refine lv_iload_n hx hb dX7_join_108 rfl (lv_at hl 1 rfl) ?_
      refine lv_iconst (v := 3) hx hb dX7_join_109 (by decide) ?_
      refine lv_aload_n hx hb dX7_join_110 rfl (lv_at hl 0 rfl) ?_
      refine lv_iload_n hx hb dX7_join_111 rfl (lv_at hl 1 rfl) ?_
      refine lv_iconst (v := 3) hx hb dX7_join_112 (by decide) ?_
      replace h := bd h
      obtain ⟨_, q44, h⟩ := h
      replace h := bd h
      obtain ⟨x46, q45, h⟩ := h
      refine c_X7_of ⟨hx, hb, hml, hown, hts⟩ hl.1 hK hP hS wd_961 ⟨(Nat.le_of_ble_eq_true rfl), (Nat.le_of_ble_eq_true rfl)⟩ q45 q44 (Nat.le_of_ble_eq_true rfl) dX7_join_113 ⟨(Nat.le_of_ble_eq_true rfl), (Nat.le_of_ble_eq_true rfl)⟩ (fun H locs hP hS => ?_)
      refine lv_aload_n hx hb dX7_join_116 rfl (lv_at hl 0 rfl) ?_
      refine lv_iload_n hx hb dX7_join_117 rfl (lv_at hl 2 rfl) ?_
      refine lv_iconst (v := 3) hx hb dX7_join_118 (by decide) ?_
      replace h := bd h
      obtain ⟨_, q47, h⟩ := h
      replace h := bd h
      obtain ⟨x49, q48, h⟩ := h
      refine c_X7_of ⟨hx, hb, hml, hown, hts⟩ hl.1 hK hP hS wd_961 ⟨(Nat.le_of_ble_eq_true rfl), (Nat.le_of_ble_eq_true rfl)⟩ q48 q47 (Nat.le_of_ble_eq_true rfl) dX7_join_119 ⟨(Nat.le_of_ble_eq_true rfl), (Nat.le_of_ble_eq_true rfl)⟩ (fun H locs hP hS => ?_)
      refine lv_iadd hx hb dX7_join_122 ?_
      replace h := bd h
      obtain ⟨_, q50, h⟩ := h
      replace h := bd h
      obtain ⟨z52, q51, h⟩ := h
      refine c_X7_setOf ⟨hx, hb, hml, hown, hts⟩ hl.1 hK hP hD hA hS wd_949 ⟨(Nat.le_of_ble_eq_true rfl), (Nat.le_of_ble_eq_true rfl)⟩ q51 q50 (Nat.le_of_ble_eq_true rfl) dX7_join_123 ⟨(Nat.le_of_ble_eq_true rfl), (Nat.le_of_ble_eq_true rfl)⟩ (fun H locs hP hD hS => ?_)
      refine lv_aload_n hx hb dX7_join_126 rfl (lv_at hl 0 rfl) ?_
      refine lv_iload_n hx hb dX7_join_127 rfl (lv_at hl 1 rfl) ?_
      refine lv_iconst (v := 4) hx hb dX7_join_128 (by decide) ?_
      refine lv_aload_n hx hb dX7_join_129 rfl (lv_at hl 0 rfl) ?_
      refine lv_iload_n hx hb dX7_join_130 rfl (lv_at hl 1 rfl) ?_
      refine lv_iconst (v := 4) hx hb dX7_join_131 (by decide) ?_
      replace h := bd h
      obtain ⟨_, q53, h⟩ := h
      replace h := bd h
      obtain ⟨x55, q54, h⟩ := h
      refine c_X7_of ⟨hx, hb, hml, hown, hts⟩ hl.1 hK hP hS wd_961 ⟨(Nat.le_of_ble_eq_true rfl), (Nat.le_of_ble_eq_true rfl)⟩ q54 q53 (Nat.le_of_ble_eq_true rfl) dX7_join_132 ⟨(Nat.le_of_ble_eq_true rfl), (Nat.le_of_ble_eq_true rfl)⟩ (fun H locs hP hS => ?_)
      refine lv_aload_n hx hb dX7_join_135 rfl (lv_at hl 0 rfl) ?_
      refine lv_iload_n hx hb dX7_join_136 rfl (lv_at hl 2 rfl) ?_
      refine lv_iconst (v := 4) hx hb dX7_join_137 (by decide) ?_
      replace h := bd h
      obtain ⟨_, q56, h⟩ := h
      replace h := bd h
      obtain ⟨x58, q57, h⟩ := h
      refine c_X7_of ⟨hx, hb, hml, hown, hts⟩ hl.1 hK hP hS wd_961 ⟨(Nat.le_of_ble_eq_true rfl), (Nat.le_of_ble_eq_true rfl)⟩ q57 q56 (Nat.le_of_ble_eq_true rfl) dX7_join_138 ⟨(Nat.le_of_ble_eq_true rfl), (Nat.le_of_ble_eq_true rfl)⟩ (fun H locs hP hS => ?_)
      refine lv_iadd hx hb dX7_join_141 ?_
      replace h := bd h
      obtain ⟨_, q59, h⟩ := h
      replace h := bd h
      obtain ⟨z61, q60, h⟩ := h
      refine c_X7_setOf ⟨hx, hb, hml, hown, hts⟩ hl.1 hK hP hD hA hS wd_949 ⟨(Nat.le_of_ble_eq_true rfl), (Nat.le_of_ble_eq_true rfl)⟩ q60 q59 (Nat.le_of_ble_eq_true rfl) dX7_join_142 ⟨(Nat.le_of_ble_eq_true rfl), (Nat.le_of_ble_eq_true rfl)⟩ (fun H locs hP hD hS => ?_)
      refine lv_aload_n hx hb dX7_join_145 rfl (lv_at hl 0 rfl) ?_
      refine lv_iload_n hx hb dX7_join_146 rfl (lv_at hl 1 rfl) ?_
      refine lv_bipush (v := 6) hx hb dX7_join_147 (by decide) ?_
      refine lv_aload_n hx hb dX7_join_149 rfl (lv_at hl 0 rfl) ?_
      refine lv_iload_n hx hb dX7_join_150 rfl (lv_at hl 1 rfl) ?_
      refine lv_bipush (v := 6) hx hb dX7_join_151 (by decide) ?_
      replace h := bd h
      obtain ⟨_, q62, h⟩ := h
      replace h := bd h
      obtain ⟨x64, q63, h⟩ := h
      refine c_X7_of ⟨hx, hb, hml, hown, hts⟩ hl.1 hK hP hS wd_961 ⟨(Nat.le_of_ble_eq_true rfl), (Nat.le_of_ble_eq_true rfl)⟩ q63 q62 (Nat.le_of_ble_eq_true rfl) dX7_join_153 ⟨(Nat.le_of_ble_eq_true rfl), (Nat.le_of_ble_eq_true rfl)⟩ (fun H locs hP hS => ?_)
      refine lv_aload_n hx hb dX7_join_156 rfl (lv_at hl 0 rfl) ?_
      refine lv_iload_n hx hb dX7_join_157 rfl (lv_at hl 2 rfl) ?_
      refine lv_bipush (v := 6) hx hb dX7_join_158 (by decide) ?_
      replace h := bd h
      obtain ⟨_, q65, h⟩ := h
      replace h := bd h
      obtain ⟨x67, q66, h⟩ := h
      refine c_X7_of ⟨hx, hb, hml, hown, hts⟩ hl.1 hK hP hS wd_961 ⟨(Nat.le_of_ble_eq_true rfl), (Nat.le_of_ble_eq_true rfl)⟩ q66 q65 (Nat.le_of_ble_eq_true rfl) dX7_join_160 ⟨(Nat.le_of_ble_eq_true rfl), (Nat.le_of_ble_eq_true rfl)⟩ (fun H locs hP hS => ?_)
      refine lv_iadd hx hb dX7_join_163 ?_
      replace h := bd h
      obtain ⟨_, q68, h⟩ := h
      replace h := bd h
      obtain ⟨z70, q69, h⟩ := h
      refine c_X7_setOf ⟨hx, hb, hml, hown, hts⟩ hl.1 hK hP hD hA hS wd_949 ⟨(Nat.le_of_ble_eq_true rfl), (Nat.le_of_ble_eq_true rfl)⟩ q69 q68 (Nat.le_of_ble_eq_true rfl) dX7_join_164 ⟨(Nat.le_of_ble_eq_true rfl), (Nat.le_of_ble_eq_true rfl)⟩ (fun H locs hP hD hS => ?_)
      refine lv_aload_n hx hb dX7_join_167 rfl (lv_at hl 0 rfl) ?_
      refine lv_iload_n hx hb dX7_join_168 rfl (lv_at hl 2 rfl) ?_
      replace h := bd h
      obtain ⟨_, q71, h⟩ := h
      replace h := bd h
      obtain ⟨z73, q72, h⟩ := h
      refine c_X7_remove ⟨hx, hb, hml, hown, hts⟩ hl.1 hK hP hD hA hS wd_1076 ⟨(Nat.le_of_ble_eq_true rfl), (Nat.le_of_ble_eq_true rfl)⟩ q72 q71 (Nat.le_of_ble_eq_true rfl) dX7_join_169 ⟨(Nat.le_of_ble_eq_true rfl), (Nat.le_of_ble_eq_true rfl)⟩ (fun H locs hP hD hS => ?_)
      refine lv_iload_n hx hb dX7_join_172 rfl (lv_at hl 2 rfl) ?_
      refine lv_iload_n hx hb dX7_join_173 rfl (lv_at hl 1 rfl) ?_
      replace h := bd h
      obtain ⟨t74, ht, h⟩ := h
      have K74 : ∀ (H : Heap) (locs : List Loc) (ls : Array Slot), SP D cy z73 H → (∀ a, z73 a ≠ none → (dm S s.heap.size) a) → va_S (dm S s.heap.size) s.heap H locs → lv_has ls 4 [] → W p l e rm_X7_join s m ([.ref a0, .int a1, .int a2] : List Value).toArray below meth c H locs 0 0 (MQ below (va_Qi (fun r' (_ : Unit) => r' = r) (fun _ t => PoS D cy S1 (dm S s.heap.size) t) (dm S s.heap.size)) ([.ref a0, .int a1, .int a2] : List Value).toArray s 0 0 (dm S s.heap.size)) (F0 m 184 ls [.int t74]) := by
        intro H locs ls hP hD hS hl
        cases h
        exact e_im hx hb hlocks hr hP hD hS (Nat.le_of_ble_eq_true rfl) (Nat.le_of_ble_eq_true rfl) dX7_join_184
      replace h := ht
      refine lv_icmp_ge (tgt := 183) hx hb dX7_join_174 (by decide) (fun c75 => ?_) (fun c75 => ?_)
      · replace h := ifp c75 h
        refine lv_iload_n hx hb dX7_join_183 rfl (lv_at hl 1 rfl) ?_
        cases h
        exact K74 _ _ _ hP hD hS (lv_sub hl [] rfl)
      · replace h := ifn c75 h
        refine lv_iload_n hx hb dX7_join_177 rfl (lv_at hl 1 rfl) ?_
        refine lv_iconst (v := 1) hx hb dX7_join_178 (by decide) ?_
        refine lv_isub hx hb dX7_join_179 ?_
        refine lv_goto (tgt := 184) hx hb dX7_join_180 (by decide) ?_
        cases h
        exact K74 _ _ _ hP hD hS (lv_sub hl [] rfl)
    · replace h := ifn c19 h
      refine lv_iconst (v := 0) hx hb dX7_join_54 (by decide) ?_
      cases h
      exact e_im hx hb hlocks hr hP hD hS (Nat.le_of_ble_eq_true rfl) (Nat.le_of_ble_eq_true rfl) dX7_join_55
  replace h := ht
  refine lv_if_eq (tgt := 17) hx hb dX7_join_6 (by decide) (fun c5 => ?_) (fun c5 => ?_)
  · replace h := ifp c5 h
    refine lv_iconst (v := 1) hx hb dX7_join_17 (by decide) ?_
    refine lv_goto (tgt := 44) hx hb dX7_join_18 (by decide) ?_
    cases h
    exact K4 _ _ _ hP hD hS (lv_sub hl [0, 1, 2] rfl)
  · replace h := ifn c5 h
    refine lv_aload_n hx hb dX7_join_9 rfl (lv_at hl 0 rfl) ?_
    refine lv_iload_n hx hb dX7_join_10 rfl (lv_at hl 2 rfl) ?_
    replace h := bd h
    obtain ⟨_, q6, h⟩ := h
    replace h := bd h
    obtain ⟨x8, q7, h⟩ := h
    refine c_X7_isBlock ⟨hx, hb, hml, hown, hts⟩ hl.1 hK hP hS wd_1044 ⟨(Nat.le_of_ble_eq_true rfl), (Nat.le_of_ble_eq_true rfl)⟩ q7 q6 (Nat.le_of_ble_eq_true rfl) dX7_join_11 ⟨(Nat.le_of_ble_eq_true rfl), (Nat.le_of_ble_eq_true rfl)⟩ (fun H locs hP hS => ?_)
    refine lv_if_ne (tgt := 21) hx hb dX7_join_14 (by decide) (fun c9 => ?_) (fun c9 => ?_)
    · replace h := ifn c9 h
      refine lv_iload_n hx hb dX7_join_21 rfl (lv_at hl 1 rfl) ?_
      refine lv_iload_n hx hb dX7_join_22 rfl (lv_at hl 2 rfl) ?_
      refine lv_icmp_ne (tgt := 30) hx hb dX7_join_23 (by decide) (fun c10 => ?_) (fun c10 => ?_)
      · replace h := ifn c10 h
        refine lv_aload_n hx hb dX7_join_30 rfl (lv_at hl 0 rfl) ?_
        refine lv_iload_n hx hb dX7_join_31 rfl (lv_at hl 1 rfl) ?_
        refine lv_iload_n hx hb dX7_join_32 rfl (lv_at hl 2 rfl) ?_
        replace h := bd h
        obtain ⟨_, q11, h⟩ := h
        replace h := bd h
        obtain ⟨x13, q12, h⟩ := h
        refine c_X7_canJoin ⟨hx, hb, hml, hown, hts⟩ hl.1 hK hP hS wd_1068 ⟨(Nat.le_of_ble_eq_true rfl), (Nat.le_of_ble_eq_true rfl)⟩ q12 q11 (Nat.le_of_ble_eq_true rfl) dX7_join_33 ⟨(Nat.le_of_ble_eq_true rfl), (Nat.le_of_ble_eq_true rfl)⟩ (fun H locs hP hS => ?_)
        refine lv_if_eq (tgt := 43) hx hb dX7_join_36 (by decide) (fun c14 => ?_) (fun c14 => ?_)
        · replace h := ifp c14 h
          refine lv_iconst (v := 3) hx hb dX7_join_43 (by decide) ?_
          cases h
          exact K4 _ _ _ hP hD hS (lv_sub hl [0, 1, 2] rfl)
        · replace h := ifn c14 h
          refine lv_iconst (v := 0) hx hb dX7_join_39 (by decide) ?_
          refine lv_goto (tgt := 44) hx hb dX7_join_40 (by decide) ?_
          cases h
          exact K4 _ _ _ hP hD hS (lv_sub hl [0, 1, 2] rfl)
      · replace h := ifp c10 h
        refine lv_iconst (v := 2) hx hb dX7_join_26 (by decide) ?_
        refine lv_goto (tgt := 44) hx hb dX7_join_27 (by decide) ?_
        cases h
        exact K4 _ _ _ hP hD hS (lv_sub hl [0, 1, 2] rfl)
    · replace h := ifp c9 h
      refine lv_iconst (v := 1) hx hb dX7_join_17 (by decide) ?_
      refine lv_goto (tgt := 44) hx hb dX7_join_18 (by decide) ?_
      cases h
      exact K4 _ _ _ hP hD hS (lv_sub hl [0, 1, 2] rfl)
set_option maxRecDepth 100000 in
theorem c_X7_join {p : Program} {l : Launch} {e : Env} {R : Room} {s : State} {m : MethodId} {args : Array Value} {below : List Frame} {meth : Method} {c : Code} {H : Heap} {locs : List Loc} {cells slots : Nat} {Q : State → Prop} {cc : ByteArray} {pc index nL : Nat} {ls : Array Slot} {rest : List Value} {D : va_G} {cy : Nat → ClassId} {A0 : Nat → Prop} {S : St} {H0 : Heap} {own : String} {u : Unit} {a0 : Nat} {a1 : Int32} {a2 : Int32} {r : Int32} {S1 : St}  (hF : CallFix p m c cc nL s args ALLW own) (hsz : ls.size = nL) (hK : va_K D vwCl (tyL cy) s) (hP : SP D cy S H) (hD : ∀ a, S a ≠ none → A0 a) (hA : ∀ q, H0.size ≤ q → A0 q) (hS : va_S A0 H0 H locs) (hk : Cond.methodLink own index yX7_join ∈ ALLW) (hR : rm_X7_join.frames + 1 ≤ R.frames ∧ 8 + (4 + 11) + rm_X7_join.locals ≤ R.locals) (h : f_X7_join S a0 a1 a2 = some (r, S1)) (hc : oO S a0 6 = some u) (hW : (rest.map fun v => v.category).sum ≤ 8) (hdg : decode cc pc = .ok (.invokevirtual index, 3)) (hf : cells + 0 ≤ R.cells ∧ slots + 0 ≤ R.slots)
    (kk : ∀ (H1 : Heap) (locs1 : List Loc), SP D cy S1 H1 → (∀ a, S1 a ≠ none → A0 a) → va_S A0 H0 H1 locs1 → W p l e R s m args below meth c H1 locs1 (cells + 0) (slots + 0) Q (F0 m (pc + 3) ls (.int r :: rest))) : W p l e R s m args below meth c H locs cells slots Q (F0 m pc ls (.int a2 :: .int a1 :: .ref a0 :: rest)) := by
  exact k_iVm (As := [.int a1, .int a2]) hF hsz (m_X7_join l D cy H.size S a0 a1 a2 r S1 h) (cwV_of (n := 2) hF.2.2.2.2 hk wd_1065 wd_1066 wd_75 wd_1067 rfl rfl (by decide +kernel) hR) rfl hK hP hD hA hS (ci := 6) hc rfl hW rfl hdg hf kk
/-- VowBlocksModel.cut(II)I -/
def f_X7_cut_L73 (y73_0 : Nat) (y73_1 : Int32) (y73_2 : Int32) (y73_3 : Int32) (y73_4 : Int32) : Nat → St → Int32 →  Option (St)
  | 0, _, _ => none
  | fu + 1, S73_, y73_5 =>
    if y73_3 ≤ y73_5 then
      some S73_
    else
      (gR S73_ y73_0 6 6).bind fun x31 =>
      (aI S73_ x31 y73_5).bind fun x33 =>
      (oO S73_ y73_0 6).bind fun _ =>
      (f_X7_setOf S73_ y73_0 y73_4 ((8 + y73_5) - y73_2) x33).bind fun z37 =>
      f_X7_cut_L73 y73_0 y73_1 y73_2 y73_3 y73_4 fu z37 (y73_5 + 1)
def f_X7_cut (S : St) (a0 : Nat) (a1 : Int32) (a2 : Int32) : Option (Int32 × St) :=
  (oO S a0 6).bind fun _ =>
  (f_X7_isPlace S a0 a1 a2).bind fun x3 =>
  (
    if x3 = 0 then
      some 1
    else
      if 1 ≤ a2 then
        (gR S a0 6 0).bind fun x7 =>
        (aI S x7 2).bind fun x9 =>
        if x9 = 8 then
          some 2
        else
          some 0
      else
        some 1
  : Option (Int32)).bind fun t4 =>
  (pI S a0 6 5 t4).bind fun Z12 =>
  (gI Z12 a0 6 5).bind fun x14 =>
  if x14 ≤ 0 then
    (oO Z12 a0 6).bind fun _ =>
    (f_X7_save Z12 a0).bind fun z19 =>
    (oO z19 a0 6).bind fun _ =>
    (f_X7_lay z19 a0 a1).bind fun z22 =>
    (gI z22 a0 6 7).bind fun x23 =>
    (oO z22 a0 6).bind fun _ =>
    (f_X7_begin z22 a0 (x23 - a2)).bind fun z27 =>
    (f_X7_cut_L73 a0 a1 a2 x23 z27.1 FU z27.2 a2).bind fun z28 =>
    (oO z28 a0 6).bind fun _ =>
    (f_X7_setOf z28 a0 a1 0 a2).bind fun z41 =>
    (oO z41 a0 6).bind fun _ =>
    (f_X7_choose z41 a0 z27.1).bind fun z44 =>
    some (z27.1, z44)
  else
    some (0, Z12)
abbrev rm_X7_cut : Room := { frames := 6, cells := 0, slots := 0, locals := 130 }
set_option maxHeartbeats 4000000 in
set_option maxRecDepth 100000 in
theorem m_X7_cut (l : Launch) (D : va_G) (cy : Nat → ClassId) (sz : Nat) (S : St) (a0 : Nat) (a1 : Int32) (a2 : Int32) (r : Int32) (S1 : St) (h : f_X7_cut S a0 a1 a2 = some (r, S1)) : Met l yX7_cut (wsA yX7_cut cX7_cut 6 (some .int)) rm_X7_cut (va_Pc [.ref a0, .int a1, .int a2] (PN D cy S sz)) (va_Qi (fun r' (_ : Unit) => r' = r) (fun _ t => PoS D cy S1 (dm S sz) t) (dm S sz)) 0 0 (dm S sz) := by
  refine Met.ofW (cc := cX7_cut) (maxL := 6) (ret := (some .int)) (by decide) rfl ?_
  intro p e s m args below meth c s₁ B hml hv
  obtain ⟨rfl, hsz, hP, hK⟩ := hv
  have hx := B.exec
  have hb := B.bytes
  have hr := B.returns
  have hts9 := atoms_spec (ws := wsA yX7_cut cX7_cut 6 (some .int)) B.pre
  have hts : ∀ w ∈ ALLW, w.before _ s = true := fun w h => hts9 w (List.mem_cons_of_mem _ h)
  have hown : s.vm.findClass RX7 = some m.cls := findClass_of_methodNamed B.named
  have hlocks := B.notSynchronized
  subst hsz
  have hD : ∀ a, S a ≠ none → dm S s.heap.size a := fun a h => Or.inl h
  have hA : ∀ q : Nat, s.heap.size ≤ q → dm S s.heap.size q := fun q h => Or.inr h
  have hS : va_S (dm S s.heap.size) s.heap s.heap [] := va_S.rf
  have hl := lv_entry [.ref a0, .int a1, .int a2] (n := 6) (Nat.le_of_ble_eq_true rfl)
  rw [lg_entry_eq]
  generalize (lg_sl [.ref a0, .int a1, .int a2] ++ List.replicate (6 - (lg_sl [.ref a0, .int a1, .int a2]).length) Slot.unset).toArray = ls at hl ⊢
  have hl : lv_has ls 6 [(0, .ref a0), (1, .int a1), (2, .int a2)] := hl
  rw [f_X7_cut] at h
  refine lv_aload_n hx hb dX7_cut_0 rfl (lv_at hl 0 rfl) ?_
  refine lv_aload_n hx hb dX7_cut_1 rfl (lv_at hl 0 rfl) ?_
  refine lv_iload_n hx hb dX7_cut_2 rfl (lv_at hl 1 rfl) ?_
  refine lv_iload_n hx hb dX7_cut_3 rfl (lv_at hl 2 rfl) ?_
  replace h := bd h
  obtain ⟨_, q1, h⟩ := h
  replace h := bd h
  obtain ⟨x3, q2, h⟩ := h
  refine c_X7_isPlace ⟨hx, hb, hml, hown, hts⟩ hl.1 hK hP hS wd_1052 ⟨(Nat.le_of_ble_eq_true rfl), (Nat.le_of_ble_eq_true rfl)⟩ q2 q1 (Nat.le_of_ble_eq_true rfl) dX7_cut_4 ⟨(Nat.le_of_ble_eq_true rfl), (Nat.le_of_ble_eq_true rfl)⟩ (fun H locs hP hS => ?_)
  replace h := bd h
  obtain ⟨t4, ht, h⟩ := h
  have K4 : ∀ (H : Heap) (locs : List Loc) (ls : Array Slot), SP D cy S H → (∀ a, S a ≠ none → (dm S s.heap.size) a) → va_S (dm S s.heap.size) s.heap H locs → lv_has ls 6 [(0, .ref a0), (1, .int a1), (2, .int a2)] → W p l e rm_X7_cut s m ([.ref a0, .int a1, .int a2] : List Value).toArray below meth c H locs 0 0 (MQ below (va_Qi (fun r' (_ : Unit) => r' = r) (fun _ t => PoS D cy S1 (dm S s.heap.size) t) (dm S s.heap.size)) ([.ref a0, .int a1, .int a2] : List Value).toArray s 0 0 (dm S s.heap.size)) (F0 m 35 ls [.int t4, .ref a0]) := by
    intro H locs ls hP hD hS hl
    replace h := bd h
    obtain ⟨Z12, q13, h⟩ := h
    refine fp_6_5 hx hb hts hown hK hP hD hS wd_892 q13 dX7_cut_35 (fun H locs hz9 hP hD hS => ?_)
    refine lv_aload_n hx hb dX7_cut_38 rfl (lv_at hl 0 rfl) ?_
    replace h := bd h
    obtain ⟨x14, q15, h⟩ := h
    refine fg_6_5 hx hb hts hown hK hP wd_892 q15 dX7_cut_39 ?_
    refine lv_if_le (tgt := 47) hx hb dX7_cut_42 (by decide) (fun c16 => ?_) (fun c16 => ?_)
    · replace h := ifp c16 h
      refine lv_aload_n hx hb dX7_cut_47 rfl (lv_at hl 0 rfl) ?_
      replace h := bd h
      obtain ⟨_, q17, h⟩ := h
      replace h := bd h
      obtain ⟨z19, q18, h⟩ := h
      refine c_X7_save ⟨hx, hb, hml, hown, hts⟩ hl.1 hK hP hD hA hS wd_941 ⟨(Nat.le_of_ble_eq_true rfl), (Nat.le_of_ble_eq_true rfl)⟩ q18 q17 (Nat.le_of_ble_eq_true rfl) dX7_cut_48 ⟨(Nat.le_of_ble_eq_true rfl), (Nat.le_of_ble_eq_true rfl)⟩ (fun H locs hP hD hS => ?_)
      refine lv_aload_n hx hb dX7_cut_51 rfl (lv_at hl 0 rfl) ?_
      refine lv_iload_n hx hb dX7_cut_52 rfl (lv_at hl 1 rfl) ?_
      replace h := bd h
      obtain ⟨_, q20, h⟩ := h
      replace h := bd h
      obtain ⟨z22, q21, h⟩ := h
      refine c_X7_lay ⟨hx, hb, hml, hown, hts⟩ hl.1 hK hP hD hA hS wd_957 ⟨(Nat.le_of_ble_eq_true rfl), (Nat.le_of_ble_eq_true rfl)⟩ q21 q20 (Nat.le_of_ble_eq_true rfl) dX7_cut_53 ⟨(Nat.le_of_ble_eq_true rfl), (Nat.le_of_ble_eq_true rfl)⟩ (fun H locs hP hD hS => ?_)
      refine lv_aload_n hx hb dX7_cut_56 rfl (lv_at hl 0 rfl) ?_
      replace h := bd h
      obtain ⟨x23, q24, h⟩ := h
      refine fg_6_7 hx hb hts hown hK hP wd_894 q24 dX7_cut_57 ?_
      refine lv_istore_n (lv' := [(3, .int x23), (0, .ref a0), (1, .int a1), (2, .int a2)]) hx hb dX7_cut_60 rfl hl (by decide) rfl (fun ls hl => ?_)
      refine lv_aload_n hx hb dX7_cut_61 rfl (lv_at hl 1 rfl) ?_
      refine lv_iload_n hx hb dX7_cut_62 rfl (lv_at hl 0 rfl) ?_
      refine lv_iload_n hx hb dX7_cut_63 rfl (lv_at hl 3 rfl) ?_
      refine lv_isub hx hb dX7_cut_64 ?_
      replace h := bd h
      obtain ⟨_, q25, h⟩ := h
      replace h := bd h
      obtain ⟨z27, q26, h⟩ := h
      refine c_X7_begin ⟨hx, hb, hml, hown, hts⟩ hl.1 hK hP hD hA hS wd_945 ⟨(Nat.le_of_ble_eq_true rfl), (Nat.le_of_ble_eq_true rfl)⟩ q26 q25 (Nat.le_of_ble_eq_true rfl) dX7_cut_65 ⟨(Nat.le_of_ble_eq_true rfl), (Nat.le_of_ble_eq_true rfl)⟩ (fun H locs hP hD hS => ?_)
      refine lv_istore (lv' := [(4, .int z27.1), (3, .int x23), (0, .ref a0), (1, .int a1), (2, .int a2)]) hx hb dX7_cut_68 hl (by decide) rfl (fun ls hl => ?_)
      refine lv_iload_n hx hb dX7_cut_70 rfl (lv_at hl 4 rfl) ?_
      refine lv_istore (lv' := [(5, .int a2), (4, .int z27.1), (3, .int x23), (0, .ref a0), (1, .int a1), (2, .int a2)]) hx hb dX7_cut_71 hl (by decide) rfl (fun ls hl => ?_)
      have L73 : ∀ (y73_0 : Nat) (y73_1 : Int32) (y73_2 : Int32) (y73_3 : Int32) (y73_4 : Int32) (fu : Nat) (S73_ : St) (y73_5 : Int32) (res : St), f_X7_cut_L73 y73_0 y73_1 y73_2 y73_3 y73_4 fu S73_ y73_5 = some res → ∀ (H : Heap) (locs : List Loc) (ls : Array Slot), SP D cy S73_ H → (∀ a, S73_ a ≠ none → (dm S s.heap.size) a) → va_S (dm S s.heap.size) s.heap H locs → lv_has ls 6 [(0, .ref y73_0), (1, .int y73_1), (2, .int y73_2), (3, .int y73_3), (4, .int y73_4), (5, .int y73_5)] → (∀ (H : Heap) (locs : List Loc) (ls : Array Slot), SP D cy res H → (∀ a, res a ≠ none → (dm S s.heap.size) a) → va_S (dm S s.heap.size) s.heap H locs → lv_has ls 6 [(0, .ref y73_0), (1, .int y73_1), (2, .int y73_2), (4, .int y73_4)] → W p l e rm_X7_cut s m ([.ref a0, .int a1, .int a2] : List Value).toArray below meth c H locs 0 0 (MQ below (va_Qi (fun r' (_ : Unit) => r' = r) (fun _ t => PoS D cy S1 (dm S s.heap.size) t) (dm S s.heap.size)) ([.ref a0, .int a1, .int a2] : List Value).toArray s 0 0 (dm S s.heap.size)) (F0 m 105 ls [])) → W p l e rm_X7_cut s m ([.ref a0, .int a1, .int a2] : List Value).toArray below meth c H locs 0 0 (MQ below (va_Qi (fun r' (_ : Unit) => r' = r) (fun _ t => PoS D cy S1 (dm S s.heap.size) t) (dm S s.heap.size)) ([.ref a0, .int a1, .int a2] : List Value).toArray s 0 0 (dm S s.heap.size)) (F0 m 73 ls []) := by
        intro y73_0 y73_1 y73_2 y73_3 y73_4 fu
        induction fu with
        | zero =>
          intro S73_ y73_5 res h
          rw [f_X7_cut_L73] at h
          cases h
        | succ fu ih =>
          intro S73_ y73_5 res h H locs ls hP hD hS hl hexit
          rw [f_X7_cut_L73] at h
          refine lv_iload hx hb dX7_cut_73 (lv_at hl 5 rfl) ?_
          refine lv_iload_n hx hb dX7_cut_75 rfl (lv_at hl 3 rfl) ?_
          refine lv_icmp_ge (tgt := 105) hx hb dX7_cut_76 (by decide) (fun c30 => ?_) (fun c30 => ?_)
          · replace h := ifp c30 h
            cases h
            exact hexit _ _ _ hP hD hS (lv_sub hl [0, 1, 2, 4] rfl)
          · replace h := ifn c30 h
            refine lv_aload_n hx hb dX7_cut_79 rfl (lv_at hl 0 rfl) ?_
            refine lv_iload hx hb dX7_cut_80 (lv_at hl 4 rfl) ?_
            refine lv_bipush (v := 8) hx hb dX7_cut_82 (by decide) ?_
            refine lv_iload hx hb dX7_cut_84 (lv_at hl 5 rfl) ?_
            refine lv_iadd hx hb dX7_cut_86 ?_
            refine lv_iload_n hx hb dX7_cut_87 rfl (lv_at hl 2 rfl) ?_
            refine lv_isub hx hb dX7_cut_88 ?_
            refine lv_aload_n hx hb dX7_cut_89 rfl (lv_at hl 0 rfl) ?_
            replace h := bd h
            obtain ⟨x31, q32, h⟩ := h
            refine fg_6_6 hx hb hts hown hK hP wd_893 q32 dX7_cut_90 ?_
            refine lv_iload hx hb dX7_cut_93 (lv_at hl 5 rfl) ?_
            replace h := bd h
            obtain ⟨x33, q34, h⟩ := h
            refine r_aI hx hb hK hP q34 dX7_cut_95 ?_
            replace h := bd h
            obtain ⟨_, q35, h⟩ := h
            replace h := bd h
            obtain ⟨z37, q36, h⟩ := h
            refine c_X7_setOf ⟨hx, hb, hml, hown, hts⟩ hl.1 hK hP hD hA hS wd_949 ⟨(Nat.le_of_ble_eq_true rfl), (Nat.le_of_ble_eq_true rfl)⟩ q36 q35 (Nat.le_of_ble_eq_true rfl) dX7_cut_96 ⟨(Nat.le_of_ble_eq_true rfl), (Nat.le_of_ble_eq_true rfl)⟩ (fun H locs hP hD hS => ?_)
            refine lv_iinc (v := (y73_5 + 1)) (lv' := [(5, .int (y73_5 + 1)), (0, .ref y73_0), (1, .int y73_1), (2, .int y73_2), (3, .int y73_3), (4, .int y73_4)]) hx hb dX7_cut_99 hl (k := 5) rfl rfl (by decide) rfl (fun ls hl => ?_)
            refine lv_goto (tgt := 73) hx hb dX7_cut_102 (by decide) ?_
            exact ih z37 (y73_5 + 1) _ h _ _ _ hP hD hS (lv_sub hl [1, 2, 3, 4, 5, 0] rfl) hexit
      replace h := bd h
      obtain ⟨z28, q38, h⟩ := h
      refine L73 a0 a1 a2 x23 z27.1 FU z27.2 a2 z28 q38 _ _ _ hP hD hS (lv_sub hl [3, 4, 5, 2, 1, 0] rfl) (fun H locs ls hP hD hS hl => ?_)
      refine lv_aload_n hx hb dX7_cut_105 rfl (lv_at hl 0 rfl) ?_
      refine lv_iload_n hx hb dX7_cut_106 rfl (lv_at hl 1 rfl) ?_
      refine lv_iconst (v := 0) hx hb dX7_cut_107 (by decide) ?_
      refine lv_iload_n hx hb dX7_cut_108 rfl (lv_at hl 2 rfl) ?_
      replace h := bd h
      obtain ⟨_, q39, h⟩ := h
      replace h := bd h
      obtain ⟨z41, q40, h⟩ := h
      refine c_X7_setOf ⟨hx, hb, hml, hown, hts⟩ hl.1 hK hP hD hA hS wd_949 ⟨(Nat.le_of_ble_eq_true rfl), (Nat.le_of_ble_eq_true rfl)⟩ q40 q39 (Nat.le_of_ble_eq_true rfl) dX7_cut_109 ⟨(Nat.le_of_ble_eq_true rfl), (Nat.le_of_ble_eq_true rfl)⟩ (fun H locs hP hD hS => ?_)
      refine lv_aload_n hx hb dX7_cut_112 rfl (lv_at hl 0 rfl) ?_
      refine lv_iload hx hb dX7_cut_113 (lv_at hl 3 rfl) ?_
      replace h := bd h
      obtain ⟨_, q42, h⟩ := h
      replace h := bd h
      obtain ⟨z44, q43, h⟩ := h
      refine c_X7_choose ⟨hx, hb, hml, hown, hts⟩ hl.1 hK hP hD hA hS wd_953 ⟨(Nat.le_of_ble_eq_true rfl), (Nat.le_of_ble_eq_true rfl)⟩ q43 q42 (Nat.le_of_ble_eq_true rfl) dX7_cut_115 ⟨(Nat.le_of_ble_eq_true rfl), (Nat.le_of_ble_eq_true rfl)⟩ (fun H locs hP hD hS => ?_)
      refine lv_iload hx hb dX7_cut_118 (lv_at hl 3 rfl) ?_
      cases h
      exact e_im hx hb hlocks hr hP hD hS (Nat.le_of_ble_eq_true rfl) (Nat.le_of_ble_eq_true rfl) dX7_cut_120
    · replace h := ifn c16 h
      refine lv_iconst (v := 0) hx hb dX7_cut_45 (by decide) ?_
      cases h
      exact e_im hx hb hlocks hr hP hD hS (Nat.le_of_ble_eq_true rfl) (Nat.le_of_ble_eq_true rfl) dX7_cut_46
  replace h := ht
  refine lv_if_eq (tgt := 15) hx hb dX7_cut_7 (by decide) (fun c5 => ?_) (fun c5 => ?_)
  · replace h := ifp c5 h
    refine lv_iconst (v := 1) hx hb dX7_cut_15 (by decide) ?_
    refine lv_goto (tgt := 35) hx hb dX7_cut_16 (by decide) ?_
    cases h
    exact K4 _ _ _ hP hD hS (lv_sub hl [0, 1, 2] rfl)
  · replace h := ifn c5 h
    refine lv_iload_n hx hb dX7_cut_10 rfl (lv_at hl 2 rfl) ?_
    refine lv_iconst (v := 1) hx hb dX7_cut_11 (by decide) ?_
    refine lv_icmp_ge (tgt := 19) hx hb dX7_cut_12 (by decide) (fun c6 => ?_) (fun c6 => ?_)
    · replace h := ifp c6 h
      refine lv_aload_n hx hb dX7_cut_19 rfl (lv_at hl 0 rfl) ?_
      replace h := bd h
      obtain ⟨x7, q8, h⟩ := h
      refine fg_6_0 hx hb hts hown hK hP wd_887 q8 dX7_cut_20 ?_
      refine lv_iconst (v := 2) hx hb dX7_cut_23 (by decide) ?_
      replace h := bd h
      obtain ⟨x9, q10, h⟩ := h
      refine r_aI hx hb hK hP q10 dX7_cut_24 ?_
      refine lv_bipush (v := 8) hx hb dX7_cut_25 (by decide) ?_
      refine lv_icmp_ne (tgt := 34) hx hb dX7_cut_27 (by decide) (fun c11 => ?_) (fun c11 => ?_)
      · replace h := ifn c11 h
        refine lv_iconst (v := 0) hx hb dX7_cut_34 (by decide) ?_
        cases h
        exact K4 _ _ _ hP hD hS (lv_sub hl [0, 1, 2] rfl)
      · replace h := ifp c11 h
        refine lv_iconst (v := 2) hx hb dX7_cut_30 (by decide) ?_
        refine lv_goto (tgt := 35) hx hb dX7_cut_31 (by decide) ?_
        cases h
        exact K4 _ _ _ hP hD hS (lv_sub hl [0, 1, 2] rfl)
    · replace h := ifn c6 h
      refine lv_iconst (v := 1) hx hb dX7_cut_15 (by decide) ?_
      refine lv_goto (tgt := 35) hx hb dX7_cut_16 (by decide) ?_
      cases h
      exact K4 _ _ _ hP hD hS (lv_sub hl [0, 1, 2] rfl)
set_option maxRecDepth 100000 in
theorem c_X7_cut {p : Program} {l : Launch} {e : Env} {R : Room} {s : State} {m : MethodId} {args : Array Value} {below : List Frame} {meth : Method} {c : Code} {H : Heap} {locs : List Loc} {cells slots : Nat} {Q : State → Prop} {cc : ByteArray} {pc index nL : Nat} {ls : Array Slot} {rest : List Value} {D : va_G} {cy : Nat → ClassId} {A0 : Nat → Prop} {S : St} {H0 : Heap} {own : String} {u : Unit} {a0 : Nat} {a1 : Int32} {a2 : Int32} {r : Int32} {S1 : St}  (hF : CallFix p m c cc nL s args ALLW own) (hsz : ls.size = nL) (hK : va_K D vwCl (tyL cy) s) (hP : SP D cy S H) (hD : ∀ a, S a ≠ none → A0 a) (hA : ∀ q, H0.size ≤ q → A0 q) (hS : va_S A0 H0 H locs) (hk : Cond.methodLink own index yX7_cut ∈ ALLW) (hR : rm_X7_cut.frames + 1 ≤ R.frames ∧ 8 + (6 + 11) + rm_X7_cut.locals ≤ R.locals) (h : f_X7_cut S a0 a1 a2 = some (r, S1)) (hc : oO S a0 6 = some u) (hW : (rest.map fun v => v.category).sum ≤ 8) (hdg : decode cc pc = .ok (.invokevirtual index, 3)) (hf : cells + 0 ≤ R.cells ∧ slots + 0 ≤ R.slots)
    (kk : ∀ (H1 : Heap) (locs1 : List Loc), SP D cy S1 H1 → (∀ a, S1 a ≠ none → A0 a) → va_S A0 H0 H1 locs1 → W p l e R s m args below meth c H1 locs1 (cells + 0) (slots + 0) Q (F0 m (pc + 3) ls (.int r :: rest))) : W p l e R s m args below meth c H locs cells slots Q (F0 m pc ls (.int a2 :: .int a1 :: .ref a0 :: rest)) := by
  exact k_iVm (As := [.int a1, .int a2]) hF hsz (m_X7_cut l D cy H.size S a0 a1 a2 r S1 h) (cwV_of (n := 2) hF.2.2.2.2 hk wd_1081 wd_1082 wd_75 wd_1083 rfl rfl (by decide +kernel) hR) rfl hK hP hD hA hS (ci := 6) hc rfl hW rfl hdg hf kk
/-- VowBlocksModel.regretBy(I)I -/
def f_X7_regretBy (S : St) (a0 : Nat) (a1 : Int32) : Option (Int32) :=
  (oO S a0 6).bind fun _ =>
  (f_X7_costBy S a0 a1).bind fun x3 =>
  (oO S a0 6).bind fun _ =>
  (f_X7_bestCode S a0).bind fun x6 =>
  (oO S a0 6).bind fun _ =>
  (f_X7_costBy S a0 x6).bind fun x9 =>
  some (x3 - x9)
abbrev rm_X7_regretBy : Room := { frames := 5, cells := 0, slots := 0, locals := 109 }
set_option maxHeartbeats 4000000 in
set_option maxRecDepth 100000 in
theorem m_X7_regretBy (l : Launch) (D : va_G) (cy : Nat → ClassId) (S : St) (a0 : Nat) (a1 : Int32) (r : Int32) (h : f_X7_regretBy S a0 a1 = some r) : Met l yX7_regretBy (wsA yX7_regretBy cX7_regretBy 2 (some .int)) rm_X7_regretBy (va_Pc [.ref a0, .int a1] (PS D cy S)) (va_Qi (fun r' (_ : Unit) => r' = r) (fun _ _ => True) noA) 0 0 noA := by
  refine Met.ofW (cc := cX7_regretBy) (maxL := 2) (ret := (some .int)) (by decide) rfl ?_
  intro p e s m args below meth c s₁ B hml hv
  obtain ⟨rfl, hP, hK⟩ := hv
  have hx := B.exec
  have hb := B.bytes
  have hr := B.returns
  have hts9 := atoms_spec (ws := wsA yX7_regretBy cX7_regretBy 2 (some .int)) B.pre
  have hts : ∀ w ∈ ALLW, w.before _ s = true := fun w h => hts9 w (List.mem_cons_of_mem _ h)
  have hown : s.vm.findClass RX7 = some m.cls := findClass_of_methodNamed B.named
  have hlocks := B.notSynchronized
  have hS : va_S noA s.heap s.heap [] := va_S.rf
  have hl := lv_entry [.ref a0, .int a1] (n := 2) (Nat.le_of_ble_eq_true rfl)
  rw [lg_entry_eq]
  generalize (lg_sl [.ref a0, .int a1] ++ List.replicate (2 - (lg_sl [.ref a0, .int a1]).length) Slot.unset).toArray = ls at hl ⊢
  have hl : lv_has ls 2 [(0, .ref a0), (1, .int a1)] := hl
  rw [f_X7_regretBy] at h
  refine lv_aload_n hx hb dX7_regretBy_0 rfl (lv_at hl 0 rfl) ?_
  refine lv_iload_n hx hb dX7_regretBy_1 rfl (lv_at hl 1 rfl) ?_
  replace h := bd h
  obtain ⟨_, q1, h⟩ := h
  replace h := bd h
  obtain ⟨x3, q2, h⟩ := h
  refine c_X7_costBy ⟨hx, hb, hml, hown, hts⟩ hl.1 hK hP hS wd_969 ⟨(Nat.le_of_ble_eq_true rfl), (Nat.le_of_ble_eq_true rfl)⟩ q2 q1 (Nat.le_of_ble_eq_true rfl) dX7_regretBy_2 ⟨(Nat.le_of_ble_eq_true rfl), (Nat.le_of_ble_eq_true rfl)⟩ (fun H locs hP hS => ?_)
  refine lv_aload_n hx hb dX7_regretBy_5 rfl (lv_at hl 0 rfl) ?_
  refine lv_aload_n hx hb dX7_regretBy_6 rfl (lv_at hl 0 rfl) ?_
  replace h := bd h
  obtain ⟨_, q4, h⟩ := h
  replace h := bd h
  obtain ⟨x6, q5, h⟩ := h
  refine c_X7_bestCode ⟨hx, hb, hml, hown, hts⟩ hl.1 hK hP hS wd_965 ⟨(Nat.le_of_ble_eq_true rfl), (Nat.le_of_ble_eq_true rfl)⟩ q5 q4 (Nat.le_of_ble_eq_true rfl) dX7_regretBy_7 ⟨(Nat.le_of_ble_eq_true rfl), (Nat.le_of_ble_eq_true rfl)⟩ (fun H locs hP hS => ?_)
  replace h := bd h
  obtain ⟨_, q7, h⟩ := h
  replace h := bd h
  obtain ⟨x9, q8, h⟩ := h
  refine c_X7_costBy ⟨hx, hb, hml, hown, hts⟩ hl.1 hK hP hS wd_969 ⟨(Nat.le_of_ble_eq_true rfl), (Nat.le_of_ble_eq_true rfl)⟩ q8 q7 (Nat.le_of_ble_eq_true rfl) dX7_regretBy_10 ⟨(Nat.le_of_ble_eq_true rfl), (Nat.le_of_ble_eq_true rfl)⟩ (fun H locs hP hS => ?_)
  refine lv_isub hx hb dX7_regretBy_13 ?_
  cases h
  exact e_ip hx hb hlocks hr hS (Nat.le_of_ble_eq_true rfl) (Nat.le_of_ble_eq_true rfl) dX7_regretBy_14
set_option maxRecDepth 100000 in
theorem c_X7_regretBy {p : Program} {l : Launch} {e : Env} {R : Room} {s : State} {m : MethodId} {args : Array Value} {below : List Frame} {meth : Method} {c : Code} {H : Heap} {locs : List Loc} {cells slots : Nat} {Q : State → Prop} {cc : ByteArray} {pc index nL : Nat} {ls : Array Slot} {rest : List Value} {D : va_G} {cy : Nat → ClassId} {A0 : Nat → Prop} {S : St} {H0 : Heap} {own : String} {u : Unit} {a0 : Nat} {a1 : Int32} {r : Int32}  (hF : CallFix p m c cc nL s args ALLW own) (hsz : ls.size = nL) (hK : va_K D vwCl (tyL cy) s) (hP : SP D cy S H) (hS : va_S A0 H0 H locs) (hk : Cond.methodLink own index yX7_regretBy ∈ ALLW) (hR : rm_X7_regretBy.frames + 1 ≤ R.frames ∧ 8 + (2 + 11) + rm_X7_regretBy.locals ≤ R.locals) (h : f_X7_regretBy S a0 a1 = some r) (hc : oO S a0 6 = some u) (hW : (rest.map fun v => v.category).sum ≤ 8) (hdg : decode cc pc = .ok (.invokevirtual index, 3)) (hf : cells + 0 ≤ R.cells ∧ slots + 0 ≤ R.slots)
    (kk : ∀ (H1 : Heap) (locs1 : List Loc), SP D cy S H1 → va_S A0 H0 H1 locs1 → W p l e R s m args below meth c H1 locs1 (cells + 0) (slots + 0) Q (F0 m (pc + 3) ls (.int r :: rest))) : W p l e R s m args below meth c H locs cells slots Q (F0 m pc ls (.int a1 :: .ref a0 :: rest)) := by
  exact k_iVp (As := [.int a1]) hF hsz (m_X7_regretBy l D cy S a0 a1 r h) (cwV_of (n := 1) hF.2.2.2.2 hk wd_1094 wd_48 wd_75 wd_1095 rfl rfl (by decide +kernel) hR) rfl hK hP hS (ci := 6) hc rfl hW rfl hdg hf kk
/-- VowBlocksModel.dayOf(I)I -/
def f_X7_dayOf (S : St) (a0 : Nat) (a1 : Int32) : Option (Int32 × St) :=
  (oO S a0 6).bind fun _ =>
  (f_X7_lay S a0 a1).bind fun z3 =>
  (oO z3 a0 6).bind fun _ =>
  (f_X7_of z3 a0 a1 1).bind fun x6 =>
  (oO z3 a0 6).bind fun _ =>
  (f_X7_regretBy z3 a0 x6).bind fun x9 =>
  (oO z3 a0 6).bind fun _ =>
  (f_X7_of z3 a0 a1 3).bind fun x12 =>
  (oO z3 a0 6).bind fun _ =>
  (f_X7_setOf z3 a0 a1 3 (x12 + x9)).bind fun z15 =>
  (gR z15 a0 6 0).bind fun x16 =>
  (aI z15 x16 3).bind fun x18 =>
  (oO z15 a0 6).bind fun _ =>
  (f_X7_of z15 a0 a1 2).bind fun x22 =>
  (gR z15 a0 6 0).bind fun x23 =>
  (aI z15 x23 0).bind fun x25 =>
  (
    if (x18 - x22) < x25 then
      some z15
    else
      (oO z15 a0 6).bind fun _ =>
      (f_X7_choose z15 a0 a1).bind fun z31 =>
      some z31
  : Option (St)).bind fun t27 =>
  some (x9, t27)
abbrev rm_X7_dayOf : Room := { frames := 6, cells := 0, slots := 0, locals := 130 }
set_option maxHeartbeats 4000000 in
set_option maxRecDepth 100000 in
theorem m_X7_dayOf (l : Launch) (D : va_G) (cy : Nat → ClassId) (sz : Nat) (S : St) (a0 : Nat) (a1 : Int32) (r : Int32) (S1 : St) (h : f_X7_dayOf S a0 a1 = some (r, S1)) : Met l yX7_dayOf (wsA yX7_dayOf cX7_dayOf 3 (some .int)) rm_X7_dayOf (va_Pc [.ref a0, .int a1] (PN D cy S sz)) (va_Qi (fun r' (_ : Unit) => r' = r) (fun _ t => PoS D cy S1 (dm S sz) t) (dm S sz)) 0 0 (dm S sz) := by
  refine Met.ofW (cc := cX7_dayOf) (maxL := 3) (ret := (some .int)) (by decide) rfl ?_
  intro p e s m args below meth c s₁ B hml hv
  obtain ⟨rfl, hsz, hP, hK⟩ := hv
  have hx := B.exec
  have hb := B.bytes
  have hr := B.returns
  have hts9 := atoms_spec (ws := wsA yX7_dayOf cX7_dayOf 3 (some .int)) B.pre
  have hts : ∀ w ∈ ALLW, w.before _ s = true := fun w h => hts9 w (List.mem_cons_of_mem _ h)
  have hown : s.vm.findClass RX7 = some m.cls := findClass_of_methodNamed B.named
  have hlocks := B.notSynchronized
  subst hsz
  have hD : ∀ a, S a ≠ none → dm S s.heap.size a := fun a h => Or.inl h
  have hA : ∀ q : Nat, s.heap.size ≤ q → dm S s.heap.size q := fun q h => Or.inr h
  have hS : va_S (dm S s.heap.size) s.heap s.heap [] := va_S.rf
  have hl := lv_entry [.ref a0, .int a1] (n := 3) (Nat.le_of_ble_eq_true rfl)
  rw [lg_entry_eq]
  generalize (lg_sl [.ref a0, .int a1] ++ List.replicate (3 - (lg_sl [.ref a0, .int a1]).length) Slot.unset).toArray = ls at hl ⊢
  have hl : lv_has ls 3 [(0, .ref a0), (1, .int a1)] := hl
  rw [f_X7_dayOf] at h
  refine lv_aload_n hx hb dX7_dayOf_0 rfl (lv_at hl 0 rfl) ?_
  refine lv_iload_n hx hb dX7_dayOf_1 rfl (lv_at hl 1 rfl) ?_
  replace h := bd h
  obtain ⟨_, q1, h⟩ := h
  replace h := bd h
  obtain ⟨z3, q2, h⟩ := h
  refine c_X7_lay ⟨hx, hb, hml, hown, hts⟩ hl.1 hK hP hD hA hS wd_957 ⟨(Nat.le_of_ble_eq_true rfl), (Nat.le_of_ble_eq_true rfl)⟩ q2 q1 (Nat.le_of_ble_eq_true rfl) dX7_dayOf_2 ⟨(Nat.le_of_ble_eq_true rfl), (Nat.le_of_ble_eq_true rfl)⟩ (fun H locs hP hD hS => ?_)
  refine lv_aload_n hx hb dX7_dayOf_5 rfl (lv_at hl 0 rfl) ?_
  refine lv_aload_n hx hb dX7_dayOf_6 rfl (lv_at hl 0 rfl) ?_
  refine lv_iload_n hx hb dX7_dayOf_7 rfl (lv_at hl 1 rfl) ?_
  refine lv_iconst (v := 1) hx hb dX7_dayOf_8 (by decide) ?_
  replace h := bd h
  obtain ⟨_, q4, h⟩ := h
  replace h := bd h
  obtain ⟨x6, q5, h⟩ := h
  refine c_X7_of ⟨hx, hb, hml, hown, hts⟩ hl.1 hK hP hS wd_961 ⟨(Nat.le_of_ble_eq_true rfl), (Nat.le_of_ble_eq_true rfl)⟩ q5 q4 (Nat.le_of_ble_eq_true rfl) dX7_dayOf_9 ⟨(Nat.le_of_ble_eq_true rfl), (Nat.le_of_ble_eq_true rfl)⟩ (fun H locs hP hS => ?_)
  replace h := bd h
  obtain ⟨_, q7, h⟩ := h
  replace h := bd h
  obtain ⟨x9, q8, h⟩ := h
  refine c_X7_regretBy ⟨hx, hb, hml, hown, hts⟩ hl.1 hK hP hS wd_1092 ⟨(Nat.le_of_ble_eq_true rfl), (Nat.le_of_ble_eq_true rfl)⟩ q8 q7 (Nat.le_of_ble_eq_true rfl) dX7_dayOf_12 ⟨(Nat.le_of_ble_eq_true rfl), (Nat.le_of_ble_eq_true rfl)⟩ (fun H locs hP hS => ?_)
  refine lv_istore_n (lv' := [(2, .int x9), (0, .ref a0), (1, .int a1)]) hx hb dX7_dayOf_15 rfl hl (by decide) rfl (fun ls hl => ?_)
  refine lv_aload_n hx hb dX7_dayOf_16 rfl (lv_at hl 1 rfl) ?_
  refine lv_iload_n hx hb dX7_dayOf_17 rfl (lv_at hl 2 rfl) ?_
  refine lv_iconst (v := 3) hx hb dX7_dayOf_18 (by decide) ?_
  refine lv_aload_n hx hb dX7_dayOf_19 rfl (lv_at hl 1 rfl) ?_
  refine lv_iload_n hx hb dX7_dayOf_20 rfl (lv_at hl 2 rfl) ?_
  refine lv_iconst (v := 3) hx hb dX7_dayOf_21 (by decide) ?_
  replace h := bd h
  obtain ⟨_, q10, h⟩ := h
  replace h := bd h
  obtain ⟨x12, q11, h⟩ := h
  refine c_X7_of ⟨hx, hb, hml, hown, hts⟩ hl.1 hK hP hS wd_961 ⟨(Nat.le_of_ble_eq_true rfl), (Nat.le_of_ble_eq_true rfl)⟩ q11 q10 (Nat.le_of_ble_eq_true rfl) dX7_dayOf_22 ⟨(Nat.le_of_ble_eq_true rfl), (Nat.le_of_ble_eq_true rfl)⟩ (fun H locs hP hS => ?_)
  refine lv_iload_n hx hb dX7_dayOf_25 rfl (lv_at hl 0 rfl) ?_
  refine lv_iadd hx hb dX7_dayOf_26 ?_
  replace h := bd h
  obtain ⟨_, q13, h⟩ := h
  replace h := bd h
  obtain ⟨z15, q14, h⟩ := h
  refine c_X7_setOf ⟨hx, hb, hml, hown, hts⟩ hl.1 hK hP hD hA hS wd_949 ⟨(Nat.le_of_ble_eq_true rfl), (Nat.le_of_ble_eq_true rfl)⟩ q14 q13 (Nat.le_of_ble_eq_true rfl) dX7_dayOf_27 ⟨(Nat.le_of_ble_eq_true rfl), (Nat.le_of_ble_eq_true rfl)⟩ (fun H locs hP hD hS => ?_)
  refine lv_aload_n hx hb dX7_dayOf_30 rfl (lv_at hl 1 rfl) ?_
  replace h := bd h
  obtain ⟨x16, q17, h⟩ := h
  refine fg_6_0 hx hb hts hown hK hP wd_887 q17 dX7_dayOf_31 ?_
  refine lv_iconst (v := 3) hx hb dX7_dayOf_34 (by decide) ?_
  replace h := bd h
  obtain ⟨x18, q19, h⟩ := h
  refine r_aI hx hb hK hP q19 dX7_dayOf_35 ?_
  refine lv_aload_n hx hb dX7_dayOf_36 rfl (lv_at hl 1 rfl) ?_
  refine lv_iload_n hx hb dX7_dayOf_37 rfl (lv_at hl 2 rfl) ?_
  refine lv_iconst (v := 2) hx hb dX7_dayOf_38 (by decide) ?_
  replace h := bd h
  obtain ⟨_, q20, h⟩ := h
  replace h := bd h
  obtain ⟨x22, q21, h⟩ := h
  refine c_X7_of ⟨hx, hb, hml, hown, hts⟩ hl.1 hK hP hS wd_961 ⟨(Nat.le_of_ble_eq_true rfl), (Nat.le_of_ble_eq_true rfl)⟩ q21 q20 (Nat.le_of_ble_eq_true rfl) dX7_dayOf_39 ⟨(Nat.le_of_ble_eq_true rfl), (Nat.le_of_ble_eq_true rfl)⟩ (fun H locs hP hS => ?_)
  refine lv_isub hx hb dX7_dayOf_42 ?_
  refine lv_aload_n hx hb dX7_dayOf_43 rfl (lv_at hl 1 rfl) ?_
  replace h := bd h
  obtain ⟨x23, q24, h⟩ := h
  refine fg_6_0 hx hb hts hown hK hP wd_887 q24 dX7_dayOf_44 ?_
  refine lv_iconst (v := 0) hx hb dX7_dayOf_47 (by decide) ?_
  replace h := bd h
  obtain ⟨x25, q26, h⟩ := h
  refine r_aI hx hb hK hP q26 dX7_dayOf_48 ?_
  replace h := bd h
  obtain ⟨t27, ht, h⟩ := h
  have K27 : ∀ (H : Heap) (locs : List Loc) (ls : Array Slot), SP D cy t27 H → (∀ a, t27 a ≠ none → (dm S s.heap.size) a) → va_S (dm S s.heap.size) s.heap H locs → lv_has ls 3 [(2, .int x9)] → W p l e rm_X7_dayOf s m ([.ref a0, .int a1] : List Value).toArray below meth c H locs 0 0 (MQ below (va_Qi (fun r' (_ : Unit) => r' = r) (fun _ t => PoS D cy S1 (dm S s.heap.size) t) (dm S s.heap.size)) ([.ref a0, .int a1] : List Value).toArray s 0 0 (dm S s.heap.size)) (F0 m 57 ls []) := by
    intro H locs ls hP hD hS hl
    refine lv_iload_n hx hb dX7_dayOf_57 rfl (lv_at hl 0 rfl) ?_
    cases h
    exact e_im hx hb hlocks hr hP hD hS (Nat.le_of_ble_eq_true rfl) (Nat.le_of_ble_eq_true rfl) dX7_dayOf_58
  replace h := ht
  refine lv_icmp_lt (tgt := 57) hx hb dX7_dayOf_49 (by decide) (fun c28 => ?_) (fun c28 => ?_)
  · replace h := ifp c28 h
    cases h
    exact K27 _ _ _ hP hD hS (lv_sub hl [0] rfl)
  · replace h := ifn c28 h
    refine lv_aload_n hx hb dX7_dayOf_52 rfl (lv_at hl 1 rfl) ?_
    refine lv_iload_n hx hb dX7_dayOf_53 rfl (lv_at hl 2 rfl) ?_
    replace h := bd h
    obtain ⟨_, q29, h⟩ := h
    replace h := bd h
    obtain ⟨z31, q30, h⟩ := h
    refine c_X7_choose ⟨hx, hb, hml, hown, hts⟩ hl.1 hK hP hD hA hS wd_953 ⟨(Nat.le_of_ble_eq_true rfl), (Nat.le_of_ble_eq_true rfl)⟩ q30 q29 (Nat.le_of_ble_eq_true rfl) dX7_dayOf_54 ⟨(Nat.le_of_ble_eq_true rfl), (Nat.le_of_ble_eq_true rfl)⟩ (fun H locs hP hD hS => ?_)
    cases h
    exact K27 _ _ _ hP hD hS (lv_sub hl [0] rfl)
set_option maxRecDepth 100000 in
theorem c_X7_dayOf {p : Program} {l : Launch} {e : Env} {R : Room} {s : State} {m : MethodId} {args : Array Value} {below : List Frame} {meth : Method} {c : Code} {H : Heap} {locs : List Loc} {cells slots : Nat} {Q : State → Prop} {cc : ByteArray} {pc index nL : Nat} {ls : Array Slot} {rest : List Value} {D : va_G} {cy : Nat → ClassId} {A0 : Nat → Prop} {S : St} {H0 : Heap} {own : String} {u : Unit} {a0 : Nat} {a1 : Int32} {r : Int32} {S1 : St}  (hF : CallFix p m c cc nL s args ALLW own) (hsz : ls.size = nL) (hK : va_K D vwCl (tyL cy) s) (hP : SP D cy S H) (hD : ∀ a, S a ≠ none → A0 a) (hA : ∀ q, H0.size ≤ q → A0 q) (hS : va_S A0 H0 H locs) (hk : Cond.methodLink own index yX7_dayOf ∈ ALLW) (hR : rm_X7_dayOf.frames + 1 ≤ R.frames ∧ 8 + (3 + 11) + rm_X7_dayOf.locals ≤ R.locals) (h : f_X7_dayOf S a0 a1 = some (r, S1)) (hc : oO S a0 6 = some u) (hW : (rest.map fun v => v.category).sum ≤ 8) (hdg : decode cc pc = .ok (.invokevirtual index, 3)) (hf : cells + 0 ≤ R.cells ∧ slots + 0 ≤ R.slots)
    (kk : ∀ (H1 : Heap) (locs1 : List Loc), SP D cy S1 H1 → (∀ a, S1 a ≠ none → A0 a) → va_S A0 H0 H1 locs1 → W p l e R s m args below meth c H1 locs1 (cells + 0) (slots + 0) Q (F0 m (pc + 3) ls (.int r :: rest))) : W p l e R s m args below meth c H locs cells slots Q (F0 m pc ls (.int a1 :: .ref a0 :: rest)) := by
  exact k_iVm (As := [.int a1]) hF hsz (m_X7_dayOf l D cy H.size S a0 a1 r S1 h) (cwV_of (n := 1) hF.2.2.2.2 hk wd_1090 wd_47 wd_75 wd_1091 rfl rfl (by decide +kernel) hR) rfl hK hP hD hA hS (ci := 6) hc rfl hW rfl hdg hf kk
/-- VowBlocksModel.pass(I)I -/
def f_X7_pass_L72 (y72_0 : Nat) (y72_1 : Int32) (y72_3 : Int32) : Nat → St → Int32 → Int32 →  Option (Int32 × St)
  | 0, _, _, _ => none
  | fu + 1, S72_, y72_2, y72_4 =>
    (gR S72_ y72_0 6 0).bind fun x29 =>
    (aI S72_ x29 2).bind fun x31 =>
    if x31 ≤ y72_4 then
      some (y72_2, S72_)
    else
      (oO S72_ y72_0 6).bind fun _ =>
      (f_X7_dayOf S72_ y72_0 y72_4).bind fun z36 =>
      f_X7_pass_L72 y72_0 y72_1 y72_3 fu z36.2 (y72_2 + z36.1) (y72_4 + 1)
def f_X7_pass_L54 (y54_0 : Nat) (y54_1 : Int32) : Nat → St → Int32 → Int32 →  Option (Int32 × St)
  | 0, _, _, _ => none
  | fu + 1, S54_, y54_2, y54_3 =>
    if y54_1 ≤ y54_3 then
      some (y54_2, S54_)
    else
      (gR S54_ y54_0 6 0).bind fun x21 =>
      (aI S54_ x21 3).bind fun x23 =>
      (sI S54_ x21 3 (x23 + 1)).bind fun Z25 =>
      (f_X7_pass_L72 y54_0 y54_1 y54_3 FU Z25 y54_2 0).bind fun z27 =>
      f_X7_pass_L54 y54_0 y54_1 fu z27.2 z27.1 (y54_3 + 1)
def f_X7_pass (S : St) (a0 : Nat) (a1 : Int32) : Option (Int32 × St) :=
  (f_X7_within a1 1 100).bind fun x2 =>
  (
    if x2 = 0 then
      some 1
    else
      (gR S a0 6 0).bind fun x5 =>
      (aI S x5 3).bind fun x7 =>
      if (x7 + a1) ≤ 5000 then
        some 0
      else
        some 2
  : Option (Int32)).bind fun t3 =>
  (pI S a0 6 5 t3).bind fun Z10 =>
  (gI Z10 a0 6 5).bind fun x12 =>
  if x12 ≤ 0 then
    (oO Z10 a0 6).bind fun _ =>
    (f_X7_save Z10 a0).bind fun z17 =>
    (f_X7_pass_L54 a0 a1 FU z17 0 0).bind fun z18 =>
    some (z18.1, z18.2)
  else
    some (0, Z10)
abbrev rm_X7_pass : Room := { frames := 7, cells := 0, slots := 0, locals := 152 }
set_option maxHeartbeats 4000000 in
set_option maxRecDepth 100000 in
theorem m_X7_pass (l : Launch) (D : va_G) (cy : Nat → ClassId) (sz : Nat) (S : St) (a0 : Nat) (a1 : Int32) (r : Int32) (S1 : St) (h : f_X7_pass S a0 a1 = some (r, S1)) : Met l yX7_pass (wsA yX7_pass cX7_pass 6 (some .int)) rm_X7_pass (va_Pc [.ref a0, .int a1] (PN D cy S sz)) (va_Qi (fun r' (_ : Unit) => r' = r) (fun _ t => PoS D cy S1 (dm S sz) t) (dm S sz)) 0 0 (dm S sz) := by
  refine Met.ofW (cc := cX7_pass) (maxL := 6) (ret := (some .int)) (by decide) rfl ?_
  intro p e s m args below meth c s₁ B hml hv
  obtain ⟨rfl, hsz, hP, hK⟩ := hv
  have hx := B.exec
  have hb := B.bytes
  have hr := B.returns
  have hts9 := atoms_spec (ws := wsA yX7_pass cX7_pass 6 (some .int)) B.pre
  have hts : ∀ w ∈ ALLW, w.before _ s = true := fun w h => hts9 w (List.mem_cons_of_mem _ h)
  have hown : s.vm.findClass RX7 = some m.cls := findClass_of_methodNamed B.named
  have hlocks := B.notSynchronized
  subst hsz
  have hD : ∀ a, S a ≠ none → dm S s.heap.size a := fun a h => Or.inl h
  have hA : ∀ q : Nat, s.heap.size ≤ q → dm S s.heap.size q := fun q h => Or.inr h
  have hS : va_S (dm S s.heap.size) s.heap s.heap [] := va_S.rf
  have hl := lv_entry [.ref a0, .int a1] (n := 6) (Nat.le_of_ble_eq_true rfl)
  rw [lg_entry_eq]
  generalize (lg_sl [.ref a0, .int a1] ++ List.replicate (6 - (lg_sl [.ref a0, .int a1]).length) Slot.unset).toArray = ls at hl ⊢
  have hl : lv_has ls 6 [(0, .ref a0), (1, .int a1)] := hl
  rw [f_X7_pass] at h
  refine lv_aload_n hx hb dX7_pass_0 rfl (lv_at hl 0 rfl) ?_
  refine lv_iload_n hx hb dX7_pass_1 rfl (lv_at hl 1 rfl) ?_
  refine lv_iconst (v := 1) hx hb dX7_pass_2 (by decide) ?_
  refine lv_bipush (v := 100) hx hb dX7_pass_3 (by decide) ?_
  replace h := bd h
  obtain ⟨x2, q1, h⟩ := h
  refine c_X7_within ⟨hx, hb, hml, hown, hts⟩ hl.1 hK hP hS wd_938 ⟨(Nat.le_of_ble_eq_true rfl), (Nat.le_of_ble_eq_true rfl)⟩ q1 (Nat.le_of_ble_eq_true rfl) dX7_pass_5 ⟨(Nat.le_of_ble_eq_true rfl), (Nat.le_of_ble_eq_true rfl)⟩ (fun H locs hP hS => ?_)
  replace h := bd h
  obtain ⟨t3, ht, h⟩ := h
  have K3 : ∀ (H : Heap) (locs : List Loc) (ls : Array Slot), SP D cy S H → (∀ a, S a ≠ none → (dm S s.heap.size) a) → va_S (dm S s.heap.size) s.heap H locs → lv_has ls 6 [(0, .ref a0), (1, .int a1)] → W p l e rm_X7_pass s m ([.ref a0, .int a1] : List Value).toArray below meth c H locs 0 0 (MQ below (va_Qi (fun r' (_ : Unit) => r' = r) (fun _ t => PoS D cy S1 (dm S s.heap.size) t) (dm S s.heap.size)) ([.ref a0, .int a1] : List Value).toArray s 0 0 (dm S s.heap.size)) (F0 m 34 ls [.int t3, .ref a0]) := by
    intro H locs ls hP hD hS hl
    replace h := bd h
    obtain ⟨Z10, q11, h⟩ := h
    refine fp_6_5 hx hb hts hown hK hP hD hS wd_892 q11 dX7_pass_34 (fun H locs hz9 hP hD hS => ?_)
    refine lv_aload_n hx hb dX7_pass_37 rfl (lv_at hl 0 rfl) ?_
    replace h := bd h
    obtain ⟨x12, q13, h⟩ := h
    refine fg_6_5 hx hb hts hown hK hP wd_892 q13 dX7_pass_38 ?_
    refine lv_if_le (tgt := 46) hx hb dX7_pass_41 (by decide) (fun c14 => ?_) (fun c14 => ?_)
    · replace h := ifp c14 h
      refine lv_aload_n hx hb dX7_pass_46 rfl (lv_at hl 0 rfl) ?_
      replace h := bd h
      obtain ⟨_, q15, h⟩ := h
      replace h := bd h
      obtain ⟨z17, q16, h⟩ := h
      refine c_X7_save ⟨hx, hb, hml, hown, hts⟩ hl.1 hK hP hD hA hS wd_941 ⟨(Nat.le_of_ble_eq_true rfl), (Nat.le_of_ble_eq_true rfl)⟩ q16 q15 (Nat.le_of_ble_eq_true rfl) dX7_pass_47 ⟨(Nat.le_of_ble_eq_true rfl), (Nat.le_of_ble_eq_true rfl)⟩ (fun H locs hP hD hS => ?_)
      refine lv_iconst (v := 0) hx hb dX7_pass_50 (by decide) ?_
      refine lv_istore_n (lv' := [(2, .int 0), (0, .ref a0), (1, .int a1)]) hx hb dX7_pass_51 rfl hl (by decide) rfl (fun ls hl => ?_)
      refine lv_iconst (v := 0) hx hb dX7_pass_52 (by decide) ?_
      refine lv_istore_n (lv' := [(3, .int 0), (2, .int 0), (0, .ref a0), (1, .int a1)]) hx hb dX7_pass_53 rfl hl (by decide) rfl (fun ls hl => ?_)
      have L54 : ∀ (y54_0 : Nat) (y54_1 : Int32) (fu : Nat) (S54_ : St) (y54_2 : Int32) (y54_3 : Int32) (res : Int32 × St), f_X7_pass_L54 y54_0 y54_1 fu S54_ y54_2 y54_3 = some res → ∀ (H : Heap) (locs : List Loc) (ls : Array Slot), SP D cy S54_ H → (∀ a, S54_ a ≠ none → (dm S s.heap.size) a) → va_S (dm S s.heap.size) s.heap H locs → lv_has ls 6 [(0, .ref y54_0), (1, .int y54_1), (2, .int y54_2), (3, .int y54_3)] → (∀ (H : Heap) (locs : List Loc) (ls : Array Slot), SP D cy res.2 H → (∀ a, res.2 a ≠ none → (dm S s.heap.size) a) → va_S (dm S s.heap.size) s.heap H locs → lv_has ls 6 [(2, .int res.1)] → W p l e rm_X7_pass s m ([.ref a0, .int a1] : List Value).toArray below meth c H locs 0 0 (MQ below (va_Qi (fun r' (_ : Unit) => r' = r) (fun _ t => PoS D cy S1 (dm S s.heap.size) t) (dm S s.heap.size)) ([.ref a0, .int a1] : List Value).toArray s 0 0 (dm S s.heap.size)) (F0 m 108 ls [])) → W p l e rm_X7_pass s m ([.ref a0, .int a1] : List Value).toArray below meth c H locs 0 0 (MQ below (va_Qi (fun r' (_ : Unit) => r' = r) (fun _ t => PoS D cy S1 (dm S s.heap.size) t) (dm S s.heap.size)) ([.ref a0, .int a1] : List Value).toArray s 0 0 (dm S s.heap.size)) (F0 m 54 ls []) := by
        intro y54_0 y54_1 fu
        induction fu with
        | zero =>
          intro S54_ y54_2 y54_3 res h
          rw [f_X7_pass_L54] at h
          cases h
        | succ fu ih =>
          intro S54_ y54_2 y54_3 res h H locs ls hP hD hS hl hexit
          rw [f_X7_pass_L54] at h
          refine lv_iload_n hx hb dX7_pass_54 rfl (lv_at hl 3 rfl) ?_
          refine lv_iload_n hx hb dX7_pass_55 rfl (lv_at hl 1 rfl) ?_
          refine lv_icmp_ge (tgt := 108) hx hb dX7_pass_56 (by decide) (fun c20 => ?_) (fun c20 => ?_)
          · replace h := ifp c20 h
            cases h
            exact hexit _ _ _ hP hD hS (lv_sub hl [2] rfl)
          · replace h := ifn c20 h
            refine lv_aload_n hx hb dX7_pass_59 rfl (lv_at hl 0 rfl) ?_
            replace h := bd h
            obtain ⟨x21, q22, h⟩ := h
            refine fg_6_0 hx hb hts hown hK hP wd_887 q22 dX7_pass_60 ?_
            refine lv_iconst (v := 3) hx hb dX7_pass_63 (by decide) ?_
            refine lv_dup2_11 hx hb dX7_pass_64 rfl rfl ?_
            replace h := bd h
            obtain ⟨x23, q24, h⟩ := h
            refine r_aI hx hb hK hP q24 dX7_pass_65 ?_
            refine lv_iconst (v := 1) hx hb dX7_pass_66 (by decide) ?_
            refine lv_iadd hx hb dX7_pass_67 ?_
            replace h := bd h
            obtain ⟨Z25, q26, h⟩ := h
            refine r_sI hx hb hK hP hD hS q26 dX7_pass_68 (fun H locs hz9 hP hD hS => ?_)
            refine lv_iconst (v := 0) hx hb dX7_pass_69 (by decide) ?_
            refine lv_istore (lv' := [(4, .int 0), (0, .ref y54_0), (1, .int y54_1), (2, .int y54_2), (3, .int y54_3)]) hx hb dX7_pass_70 hl (by decide) rfl (fun ls hl => ?_)
            have L72 : ∀ (y72_0 : Nat) (y72_1 : Int32) (y72_3 : Int32) (fu : Nat) (S72_ : St) (y72_2 : Int32) (y72_4 : Int32) (res : Int32 × St), f_X7_pass_L72 y72_0 y72_1 y72_3 fu S72_ y72_2 y72_4 = some res → ∀ (H : Heap) (locs : List Loc) (ls : Array Slot), SP D cy S72_ H → (∀ a, S72_ a ≠ none → (dm S s.heap.size) a) → va_S (dm S s.heap.size) s.heap H locs → lv_has ls 6 [(0, .ref y72_0), (1, .int y72_1), (2, .int y72_2), (3, .int y72_3), (4, .int y72_4)] → (∀ (H : Heap) (locs : List Loc) (ls : Array Slot), SP D cy res.2 H → (∀ a, res.2 a ≠ none → (dm S s.heap.size) a) → va_S (dm S s.heap.size) s.heap H locs → lv_has ls 6 [(0, .ref y72_0), (1, .int y72_1), (2, .int res.1), (3, .int y72_3)] → W p l e rm_X7_pass s m ([.ref a0, .int a1] : List Value).toArray below meth c H locs 0 0 (MQ below (va_Qi (fun r' (_ : Unit) => r' = r) (fun _ t => PoS D cy S1 (dm S s.heap.size) t) (dm S s.heap.size)) ([.ref a0, .int a1] : List Value).toArray s 0 0 (dm S s.heap.size)) (F0 m 102 ls [])) → W p l e rm_X7_pass s m ([.ref a0, .int a1] : List Value).toArray below meth c H locs 0 0 (MQ below (va_Qi (fun r' (_ : Unit) => r' = r) (fun _ t => PoS D cy S1 (dm S s.heap.size) t) (dm S s.heap.size)) ([.ref a0, .int a1] : List Value).toArray s 0 0 (dm S s.heap.size)) (F0 m 72 ls []) := by
              intro y72_0 y72_1 y72_3 fu
              induction fu with
              | zero =>
                intro S72_ y72_2 y72_4 res h
                rw [f_X7_pass_L72] at h
                cases h
              | succ fu ih =>
                intro S72_ y72_2 y72_4 res h H locs ls hP hD hS hl hexit
                rw [f_X7_pass_L72] at h
                refine lv_iload hx hb dX7_pass_72 (lv_at hl 4 rfl) ?_
                refine lv_aload_n hx hb dX7_pass_74 rfl (lv_at hl 0 rfl) ?_
                replace h := bd h
                obtain ⟨x29, q30, h⟩ := h
                refine fg_6_0 hx hb hts hown hK hP wd_887 q30 dX7_pass_75 ?_
                refine lv_iconst (v := 2) hx hb dX7_pass_78 (by decide) ?_
                replace h := bd h
                obtain ⟨x31, q32, h⟩ := h
                refine r_aI hx hb hK hP q32 dX7_pass_79 ?_
                refine lv_icmp_ge (tgt := 102) hx hb dX7_pass_80 (by decide) (fun c33 => ?_) (fun c33 => ?_)
                · replace h := ifp c33 h
                  cases h
                  exact hexit _ _ _ hP hD hS (lv_sub hl [0, 1, 2, 3] rfl)
                · replace h := ifn c33 h
                  refine lv_aload_n hx hb dX7_pass_83 rfl (lv_at hl 0 rfl) ?_
                  refine lv_iload hx hb dX7_pass_84 (lv_at hl 4 rfl) ?_
                  replace h := bd h
                  obtain ⟨_, q34, h⟩ := h
                  replace h := bd h
                  obtain ⟨z36, q35, h⟩ := h
                  refine c_X7_dayOf ⟨hx, hb, hml, hown, hts⟩ hl.1 hK hP hD hA hS wd_1088 ⟨(Nat.le_of_ble_eq_true rfl), (Nat.le_of_ble_eq_true rfl)⟩ q35 q34 (Nat.le_of_ble_eq_true rfl) dX7_pass_86 ⟨(Nat.le_of_ble_eq_true rfl), (Nat.le_of_ble_eq_true rfl)⟩ (fun H locs hP hD hS => ?_)
                  refine lv_istore (lv' := [(5, .int z36.1), (0, .ref y72_0), (1, .int y72_1), (2, .int y72_2), (3, .int y72_3), (4, .int y72_4)]) hx hb dX7_pass_89 hl (by decide) rfl (fun ls hl => ?_)
                  refine lv_iload_n hx hb dX7_pass_91 rfl (lv_at hl 3 rfl) ?_
                  refine lv_iload hx hb dX7_pass_92 (lv_at hl 0 rfl) ?_
                  refine lv_iadd hx hb dX7_pass_94 ?_
                  refine lv_istore_n (lv' := [(2, .int (y72_2 + z36.1)), (5, .int z36.1), (0, .ref y72_0), (1, .int y72_1), (3, .int y72_3), (4, .int y72_4)]) hx hb dX7_pass_95 rfl hl (by decide) rfl (fun ls hl => ?_)
                  refine lv_iinc (v := (y72_4 + 1)) (lv' := [(4, .int (y72_4 + 1)), (2, .int (y72_2 + z36.1)), (5, .int z36.1), (0, .ref y72_0), (1, .int y72_1), (3, .int y72_3)]) hx hb dX7_pass_96 hl (k := 5) rfl rfl (by decide) rfl (fun ls hl => ?_)
                  refine lv_goto (tgt := 72) hx hb dX7_pass_99 (by decide) ?_
                  exact ih z36.2 (y72_2 + z36.1) (y72_4 + 1) _ h _ _ _ hP hD hS (lv_sub hl [3, 4, 1, 5, 0] rfl) hexit
            replace h := bd h
            obtain ⟨z27, q37, h⟩ := h
            refine L72 y54_0 y54_1 y54_3 FU Z25 y54_2 0 z27 q37 _ _ _ hP hD hS (lv_sub hl [1, 2, 3, 4, 0] rfl) (fun H locs ls hP hD hS hl => ?_)
            refine lv_iinc (v := (y54_3 + 1)) (lv' := [(3, .int (y54_3 + 1)), (0, .ref y54_0), (1, .int y54_1), (2, .int z27.1)]) hx hb dX7_pass_102 hl (k := 3) rfl rfl (by decide) rfl (fun ls hl => ?_)
            refine lv_goto (tgt := 54) hx hb dX7_pass_105 (by decide) ?_
            exact ih z27.2 z27.1 (y54_3 + 1) _ h _ _ _ hP hD hS (lv_sub hl [1, 2, 3, 0] rfl) hexit
      replace h := bd h
      obtain ⟨z18, q38, h⟩ := h
      refine L54 a0 a1 FU z17 0 0 z18 q38 _ _ _ hP hD hS (lv_sub hl [2, 3, 1, 0] rfl) (fun H locs ls hP hD hS hl => ?_)
      refine lv_iload_n hx hb dX7_pass_108 rfl (lv_at hl 0 rfl) ?_
      cases h
      exact e_im hx hb hlocks hr hP hD hS (Nat.le_of_ble_eq_true rfl) (Nat.le_of_ble_eq_true rfl) dX7_pass_109
    · replace h := ifn c14 h
      refine lv_iconst (v := 0) hx hb dX7_pass_44 (by decide) ?_
      cases h
      exact e_im hx hb hlocks hr hP hD hS (Nat.le_of_ble_eq_true rfl) (Nat.le_of_ble_eq_true rfl) dX7_pass_45
  replace h := ht
  refine lv_if_ne (tgt := 15) hx hb dX7_pass_8 (by decide) (fun c4 => ?_) (fun c4 => ?_)
  · replace h := ifn c4 h
    refine lv_aload_n hx hb dX7_pass_15 rfl (lv_at hl 0 rfl) ?_
    replace h := bd h
    obtain ⟨x5, q6, h⟩ := h
    refine fg_6_0 hx hb hts hown hK hP wd_887 q6 dX7_pass_16 ?_
    refine lv_iconst (v := 3) hx hb dX7_pass_19 (by decide) ?_
    replace h := bd h
    obtain ⟨x7, q8, h⟩ := h
    refine r_aI hx hb hK hP q8 dX7_pass_20 ?_
    refine lv_iload_n hx hb dX7_pass_21 rfl (lv_at hl 1 rfl) ?_
    refine lv_iadd hx hb dX7_pass_22 ?_
    refine lv_sipush (v := 5000) hx hb dX7_pass_23 (by decide) ?_
    refine lv_icmp_le (tgt := 33) hx hb dX7_pass_26 (by decide) (fun c9 => ?_) (fun c9 => ?_)
    · replace h := ifp c9 h
      refine lv_iconst (v := 0) hx hb dX7_pass_33 (by decide) ?_
      cases h
      exact K3 _ _ _ hP hD hS (lv_sub hl [0, 1] rfl)
    · replace h := ifn c9 h
      refine lv_iconst (v := 2) hx hb dX7_pass_29 (by decide) ?_
      refine lv_goto (tgt := 34) hx hb dX7_pass_30 (by decide) ?_
      cases h
      exact K3 _ _ _ hP hD hS (lv_sub hl [0, 1] rfl)
  · replace h := ifp c4 h
    refine lv_iconst (v := 1) hx hb dX7_pass_11 (by decide) ?_
    refine lv_goto (tgt := 34) hx hb dX7_pass_12 (by decide) ?_
    cases h
    exact K3 _ _ _ hP hD hS (lv_sub hl [0, 1] rfl)
set_option maxRecDepth 100000 in
theorem c_X7_pass {p : Program} {l : Launch} {e : Env} {R : Room} {s : State} {m : MethodId} {args : Array Value} {below : List Frame} {meth : Method} {c : Code} {H : Heap} {locs : List Loc} {cells slots : Nat} {Q : State → Prop} {cc : ByteArray} {pc index nL : Nat} {ls : Array Slot} {rest : List Value} {D : va_G} {cy : Nat → ClassId} {A0 : Nat → Prop} {S : St} {H0 : Heap} {own : String} {u : Unit} {a0 : Nat} {a1 : Int32} {r : Int32} {S1 : St}  (hF : CallFix p m c cc nL s args ALLW own) (hsz : ls.size = nL) (hK : va_K D vwCl (tyL cy) s) (hP : SP D cy S H) (hD : ∀ a, S a ≠ none → A0 a) (hA : ∀ q, H0.size ≤ q → A0 q) (hS : va_S A0 H0 H locs) (hk : Cond.methodLink own index yX7_pass ∈ ALLW) (hR : rm_X7_pass.frames + 1 ≤ R.frames ∧ 8 + (6 + 11) + rm_X7_pass.locals ≤ R.locals) (h : f_X7_pass S a0 a1 = some (r, S1)) (hc : oO S a0 6 = some u) (hW : (rest.map fun v => v.category).sum ≤ 8) (hdg : decode cc pc = .ok (.invokevirtual index, 3)) (hf : cells + 0 ≤ R.cells ∧ slots + 0 ≤ R.slots)
    (kk : ∀ (H1 : Heap) (locs1 : List Loc), SP D cy S1 H1 → (∀ a, S1 a ≠ none → A0 a) → va_S A0 H0 H1 locs1 → W p l e R s m args below meth c H1 locs1 (cells + 0) (slots + 0) Q (F0 m (pc + 3) ls (.int r :: rest))) : W p l e R s m args below meth c H locs cells slots Q (F0 m pc ls (.int a1 :: .ref a0 :: rest)) := by
  exact k_iVm (As := [.int a1]) hF hsz (m_X7_pass l D cy H.size S a0 a1 r S1 h) (cwV_of (n := 1) hF.2.2.2.2 hk wd_1085 wd_1086 wd_75 wd_1087 rfl rfl (by decide +kernel) hR) rfl hK hP hD hA hS (ci := 6) hc rfl hW rfl hdg hf kk
/-- VowBlocksModel.daysLeft(I)I -/
def f_X7_daysLeft (S : St) (a0 : Nat) (a1 : Int32) : Option (Int32) :=
  (gR S a0 6 0).bind fun x1 =>
  (aI S x1 0).bind fun x3 =>
  (gR S a0 6 0).bind fun x5 =>
  (aI S x5 3).bind fun x7 =>
  (oO S a0 6).bind fun _ =>
  (f_X7_of S a0 a1 2).bind fun x11 =>
  (
    if 0 ≤ (x3 - (x7 - x11)) then
      some (x3 - (x7 - x11))
    else
      some 0
  : Option (Int32)).bind fun t12 =>
  some t12
abbrev rm_X7_daysLeft : Room := { frames := 1, cells := 0, slots := 0, locals := 22 }
set_option maxHeartbeats 4000000 in
set_option maxRecDepth 100000 in
theorem m_X7_daysLeft (l : Launch) (D : va_G) (cy : Nat → ClassId) (S : St) (a0 : Nat) (a1 : Int32) (r : Int32) (h : f_X7_daysLeft S a0 a1 = some r) : Met l yX7_daysLeft (wsA yX7_daysLeft cX7_daysLeft 3 (some .int)) rm_X7_daysLeft (va_Pc [.ref a0, .int a1] (PS D cy S)) (va_Qi (fun r' (_ : Unit) => r' = r) (fun _ _ => True) noA) 0 0 noA := by
  refine Met.ofW (cc := cX7_daysLeft) (maxL := 3) (ret := (some .int)) (by decide) rfl ?_
  intro p e s m args below meth c s₁ B hml hv
  obtain ⟨rfl, hP, hK⟩ := hv
  have hx := B.exec
  have hb := B.bytes
  have hr := B.returns
  have hts9 := atoms_spec (ws := wsA yX7_daysLeft cX7_daysLeft 3 (some .int)) B.pre
  have hts : ∀ w ∈ ALLW, w.before _ s = true := fun w h => hts9 w (List.mem_cons_of_mem _ h)
  have hown : s.vm.findClass RX7 = some m.cls := findClass_of_methodNamed B.named
  have hlocks := B.notSynchronized
  have hS : va_S noA s.heap s.heap [] := va_S.rf
  have hl := lv_entry [.ref a0, .int a1] (n := 3) (Nat.le_of_ble_eq_true rfl)
  rw [lg_entry_eq]
  generalize (lg_sl [.ref a0, .int a1] ++ List.replicate (3 - (lg_sl [.ref a0, .int a1]).length) Slot.unset).toArray = ls at hl ⊢
  have hl : lv_has ls 3 [(0, .ref a0), (1, .int a1)] := hl
  rw [f_X7_daysLeft] at h
  refine lv_aload_n hx hb dX7_daysLeft_0 rfl (lv_at hl 0 rfl) ?_
  replace h := bd h
  obtain ⟨x1, q2, h⟩ := h
  refine fg_6_0 hx hb hts hown hK hP wd_887 q2 dX7_daysLeft_1 ?_
  refine lv_iconst (v := 0) hx hb dX7_daysLeft_4 (by decide) ?_
  replace h := bd h
  obtain ⟨x3, q4, h⟩ := h
  refine r_aI hx hb hK hP q4 dX7_daysLeft_5 ?_
  refine lv_aload_n hx hb dX7_daysLeft_6 rfl (lv_at hl 0 rfl) ?_
  replace h := bd h
  obtain ⟨x5, q6, h⟩ := h
  refine fg_6_0 hx hb hts hown hK hP wd_887 q6 dX7_daysLeft_7 ?_
  refine lv_iconst (v := 3) hx hb dX7_daysLeft_10 (by decide) ?_
  replace h := bd h
  obtain ⟨x7, q8, h⟩ := h
  refine r_aI hx hb hK hP q8 dX7_daysLeft_11 ?_
  refine lv_aload_n hx hb dX7_daysLeft_12 rfl (lv_at hl 0 rfl) ?_
  refine lv_iload_n hx hb dX7_daysLeft_13 rfl (lv_at hl 1 rfl) ?_
  refine lv_iconst (v := 2) hx hb dX7_daysLeft_14 (by decide) ?_
  replace h := bd h
  obtain ⟨_, q9, h⟩ := h
  replace h := bd h
  obtain ⟨x11, q10, h⟩ := h
  refine c_X7_of ⟨hx, hb, hml, hown, hts⟩ hl.1 hK hP hS wd_961 ⟨(Nat.le_of_ble_eq_true rfl), (Nat.le_of_ble_eq_true rfl)⟩ q10 q9 (Nat.le_of_ble_eq_true rfl) dX7_daysLeft_15 ⟨(Nat.le_of_ble_eq_true rfl), (Nat.le_of_ble_eq_true rfl)⟩ (fun H locs hP hS => ?_)
  refine lv_isub hx hb dX7_daysLeft_18 ?_
  refine lv_isub hx hb dX7_daysLeft_19 ?_
  refine lv_istore_n (lv' := [(2, .int (x3 - (x7 - x11))), (0, .ref a0), (1, .int a1)]) hx hb dX7_daysLeft_20 rfl hl (by decide) rfl (fun ls hl => ?_)
  refine lv_iload_n hx hb dX7_daysLeft_21 rfl (lv_at hl 0 rfl) ?_
  replace h := bd h
  obtain ⟨t12, ht, h⟩ := h
  have K12 : ∀ (H : Heap) (locs : List Loc) (ls : Array Slot), SP D cy S H → va_S noA s.heap H locs → lv_has ls 3 [] → W p l e rm_X7_daysLeft s m ([.ref a0, .int a1] : List Value).toArray below meth c H locs 0 0 (MQ below (va_Qi (fun r' (_ : Unit) => r' = r) (fun _ _ => True) noA) ([.ref a0, .int a1] : List Value).toArray s 0 0 noA) (F0 m 30 ls [.int t12]) := by
    intro H locs ls hP hS hl
    cases h
    exact e_ip hx hb hlocks hr hS (Nat.le_of_ble_eq_true rfl) (Nat.le_of_ble_eq_true rfl) dX7_daysLeft_30
  replace h := ht
  refine lv_if_ge (tgt := 29) hx hb dX7_daysLeft_22 (by decide) (fun c13 => ?_) (fun c13 => ?_)
  · replace h := ifp c13 h
    refine lv_iload_n hx hb dX7_daysLeft_29 rfl (lv_at hl 0 rfl) ?_
    cases h
    exact K12 _ _ _ hP hS (lv_sub hl [] rfl)
  · replace h := ifn c13 h
    refine lv_iconst (v := 0) hx hb dX7_daysLeft_25 (by decide) ?_
    refine lv_goto (tgt := 30) hx hb dX7_daysLeft_26 (by decide) ?_
    cases h
    exact K12 _ _ _ hP hS (lv_sub hl [] rfl)
set_option maxRecDepth 100000 in
theorem c_X7_daysLeft {p : Program} {l : Launch} {e : Env} {R : Room} {s : State} {m : MethodId} {args : Array Value} {below : List Frame} {meth : Method} {c : Code} {H : Heap} {locs : List Loc} {cells slots : Nat} {Q : State → Prop} {cc : ByteArray} {pc index nL : Nat} {ls : Array Slot} {rest : List Value} {D : va_G} {cy : Nat → ClassId} {A0 : Nat → Prop} {S : St} {H0 : Heap} {own : String} {u : Unit} {a0 : Nat} {a1 : Int32} {r : Int32}  (hF : CallFix p m c cc nL s args ALLW own) (hsz : ls.size = nL) (hK : va_K D vwCl (tyL cy) s) (hP : SP D cy S H) (hS : va_S A0 H0 H locs) (hk : Cond.methodLink own index yX7_daysLeft ∈ ALLW) (hR : rm_X7_daysLeft.frames + 1 ≤ R.frames ∧ 8 + (3 + 11) + rm_X7_daysLeft.locals ≤ R.locals) (h : f_X7_daysLeft S a0 a1 = some r) (hc : oO S a0 6 = some u) (hW : (rest.map fun v => v.category).sum ≤ 8) (hdg : decode cc pc = .ok (.invokevirtual index, 3)) (hf : cells + 0 ≤ R.cells ∧ slots + 0 ≤ R.slots)
    (kk : ∀ (H1 : Heap) (locs1 : List Loc), SP D cy S H1 → va_S A0 H0 H1 locs1 → W p l e R s m args below meth c H1 locs1 (cells + 0) (slots + 0) Q (F0 m (pc + 3) ls (.int r :: rest))) : W p l e R s m args below meth c H locs cells slots Q (F0 m pc ls (.int a1 :: .ref a0 :: rest)) := by
  exact k_iVp (As := [.int a1]) hF hsz (m_X7_daysLeft l D cy S a0 a1 r h) (cwV_of (n := 1) hF.2.2.2.2 hk wd_1106 wd_50 wd_75 wd_1107 rfl rfl (by decide +kernel) hR) rfl hK hP hS (ci := 6) hc rfl hW rfl hdg hf kk
/-- VowBlocksModel.fineOf(I)I -/
def f_X7_fineOf (S : St) (a0 : Nat) (a1 : Int32) : Option (Int32) :=
  (gR S a0 6 0).bind fun x1 =>
  (aI S x1 1).bind fun x3 =>
  (oO S a0 6).bind fun _ =>
  (f_X7_daysLeft S a0 a1).bind fun x7 =>
  some (x3 * x7)
abbrev rm_X7_fineOf : Room := { frames := 2, cells := 0, slots := 0, locals := 44 }
set_option maxHeartbeats 4000000 in
set_option maxRecDepth 100000 in
theorem m_X7_fineOf (l : Launch) (D : va_G) (cy : Nat → ClassId) (S : St) (a0 : Nat) (a1 : Int32) (r : Int32) (h : f_X7_fineOf S a0 a1 = some r) : Met l yX7_fineOf (wsA yX7_fineOf cX7_fineOf 2 (some .int)) rm_X7_fineOf (va_Pc [.ref a0, .int a1] (PS D cy S)) (va_Qi (fun r' (_ : Unit) => r' = r) (fun _ _ => True) noA) 0 0 noA := by
  refine Met.ofW (cc := cX7_fineOf) (maxL := 2) (ret := (some .int)) (by decide) rfl ?_
  intro p e s m args below meth c s₁ B hml hv
  obtain ⟨rfl, hP, hK⟩ := hv
  have hx := B.exec
  have hb := B.bytes
  have hr := B.returns
  have hts9 := atoms_spec (ws := wsA yX7_fineOf cX7_fineOf 2 (some .int)) B.pre
  have hts : ∀ w ∈ ALLW, w.before _ s = true := fun w h => hts9 w (List.mem_cons_of_mem _ h)
  have hown : s.vm.findClass RX7 = some m.cls := findClass_of_methodNamed B.named
  have hlocks := B.notSynchronized
  have hS : va_S noA s.heap s.heap [] := va_S.rf
  have hl := lv_entry [.ref a0, .int a1] (n := 2) (Nat.le_of_ble_eq_true rfl)
  rw [lg_entry_eq]
  generalize (lg_sl [.ref a0, .int a1] ++ List.replicate (2 - (lg_sl [.ref a0, .int a1]).length) Slot.unset).toArray = ls at hl ⊢
  have hl : lv_has ls 2 [(0, .ref a0), (1, .int a1)] := hl
  rw [f_X7_fineOf] at h
  refine lv_aload_n hx hb dX7_fineOf_0 rfl (lv_at hl 0 rfl) ?_
  replace h := bd h
  obtain ⟨x1, q2, h⟩ := h
  refine fg_6_0 hx hb hts hown hK hP wd_887 q2 dX7_fineOf_1 ?_
  refine lv_iconst (v := 1) hx hb dX7_fineOf_4 (by decide) ?_
  replace h := bd h
  obtain ⟨x3, q4, h⟩ := h
  refine r_aI hx hb hK hP q4 dX7_fineOf_5 ?_
  refine lv_aload_n hx hb dX7_fineOf_6 rfl (lv_at hl 0 rfl) ?_
  refine lv_iload_n hx hb dX7_fineOf_7 rfl (lv_at hl 1 rfl) ?_
  replace h := bd h
  obtain ⟨_, q5, h⟩ := h
  replace h := bd h
  obtain ⟨x7, q6, h⟩ := h
  refine c_X7_daysLeft ⟨hx, hb, hml, hown, hts⟩ hl.1 hK hP hS wd_1104 ⟨(Nat.le_of_ble_eq_true rfl), (Nat.le_of_ble_eq_true rfl)⟩ q6 q5 (Nat.le_of_ble_eq_true rfl) dX7_fineOf_8 ⟨(Nat.le_of_ble_eq_true rfl), (Nat.le_of_ble_eq_true rfl)⟩ (fun H locs hP hS => ?_)
  refine lv_imul hx hb dX7_fineOf_11 ?_
  cases h
  exact e_ip hx hb hlocks hr hS (Nat.le_of_ble_eq_true rfl) (Nat.le_of_ble_eq_true rfl) dX7_fineOf_12
set_option maxRecDepth 100000 in
theorem c_X7_fineOf {p : Program} {l : Launch} {e : Env} {R : Room} {s : State} {m : MethodId} {args : Array Value} {below : List Frame} {meth : Method} {c : Code} {H : Heap} {locs : List Loc} {cells slots : Nat} {Q : State → Prop} {cc : ByteArray} {pc index nL : Nat} {ls : Array Slot} {rest : List Value} {D : va_G} {cy : Nat → ClassId} {A0 : Nat → Prop} {S : St} {H0 : Heap} {own : String} {u : Unit} {a0 : Nat} {a1 : Int32} {r : Int32}  (hF : CallFix p m c cc nL s args ALLW own) (hsz : ls.size = nL) (hK : va_K D vwCl (tyL cy) s) (hP : SP D cy S H) (hS : va_S A0 H0 H locs) (hk : Cond.methodLink own index yX7_fineOf ∈ ALLW) (hR : rm_X7_fineOf.frames + 1 ≤ R.frames ∧ 8 + (2 + 11) + rm_X7_fineOf.locals ≤ R.locals) (h : f_X7_fineOf S a0 a1 = some r) (hc : oO S a0 6 = some u) (hW : (rest.map fun v => v.category).sum ≤ 8) (hdg : decode cc pc = .ok (.invokevirtual index, 3)) (hf : cells + 0 ≤ R.cells ∧ slots + 0 ≤ R.slots)
    (kk : ∀ (H1 : Heap) (locs1 : List Loc), SP D cy S H1 → va_S A0 H0 H1 locs1 → W p l e R s m args below meth c H1 locs1 (cells + 0) (slots + 0) Q (F0 m (pc + 3) ls (.int r :: rest))) : W p l e R s m args below meth c H locs cells slots Q (F0 m pc ls (.int a1 :: .ref a0 :: rest)) := by
  exact k_iVp (As := [.int a1]) hF hsz (m_X7_fineOf l D cy S a0 a1 r h) (cwV_of (n := 1) hF.2.2.2.2 hk wd_1102 wd_49 wd_75 wd_1103 rfl rfl (by decide +kernel) hR) rfl hK hP hS (ci := 6) hc rfl hW rfl hdg hf kk
/-- VowBlocksModel.breakVow(I)I -/
def f_X7_breakVow (S : St) (a0 : Nat) (a1 : Int32) : Option (Int32 × St) :=
  (oO S a0 6).bind fun _ =>
  (f_X7_isBlock S a0 a1).bind fun x3 =>
  (
    if x3 = 0 then
      some 1
    else
      some 0
  : Option (Int32)).bind fun t4 =>
  (pI S a0 6 5 t4).bind fun Z6 =>
  (gI Z6 a0 6 5).bind fun x8 =>
  if x8 ≤ 0 then
    (oO Z6 a0 6).bind fun _ =>
    (f_X7_save Z6 a0).bind fun z13 =>
    (oO z13 a0 6).bind fun _ =>
    (f_X7_fineOf z13 a0 a1).bind fun x16 =>
    (oO z13 a0 6).bind fun _ =>
    (f_X7_of z13 a0 a1 6).bind fun x19 =>
    (oO z13 a0 6).bind fun _ =>
    (f_X7_setOf z13 a0 a1 6 (x19 + x16)).bind fun z22 =>
    (oO z22 a0 6).bind fun _ =>
    (f_X7_choose z22 a0 a1).bind fun z25 =>
    some (x16, z25)
  else
    some (0, Z6)
abbrev rm_X7_breakVow : Room := { frames := 6, cells := 0, slots := 0, locals := 130 }
set_option maxHeartbeats 4000000 in
set_option maxRecDepth 100000 in
theorem m_X7_breakVow (l : Launch) (D : va_G) (cy : Nat → ClassId) (sz : Nat) (S : St) (a0 : Nat) (a1 : Int32) (r : Int32) (S1 : St) (h : f_X7_breakVow S a0 a1 = some (r, S1)) : Met l yX7_breakVow (wsA yX7_breakVow cX7_breakVow 3 (some .int)) rm_X7_breakVow (va_Pc [.ref a0, .int a1] (PN D cy S sz)) (va_Qi (fun r' (_ : Unit) => r' = r) (fun _ t => PoS D cy S1 (dm S sz) t) (dm S sz)) 0 0 (dm S sz) := by
  refine Met.ofW (cc := cX7_breakVow) (maxL := 3) (ret := (some .int)) (by decide) rfl ?_
  intro p e s m args below meth c s₁ B hml hv
  obtain ⟨rfl, hsz, hP, hK⟩ := hv
  have hx := B.exec
  have hb := B.bytes
  have hr := B.returns
  have hts9 := atoms_spec (ws := wsA yX7_breakVow cX7_breakVow 3 (some .int)) B.pre
  have hts : ∀ w ∈ ALLW, w.before _ s = true := fun w h => hts9 w (List.mem_cons_of_mem _ h)
  have hown : s.vm.findClass RX7 = some m.cls := findClass_of_methodNamed B.named
  have hlocks := B.notSynchronized
  subst hsz
  have hD : ∀ a, S a ≠ none → dm S s.heap.size a := fun a h => Or.inl h
  have hA : ∀ q : Nat, s.heap.size ≤ q → dm S s.heap.size q := fun q h => Or.inr h
  have hS : va_S (dm S s.heap.size) s.heap s.heap [] := va_S.rf
  have hl := lv_entry [.ref a0, .int a1] (n := 3) (Nat.le_of_ble_eq_true rfl)
  rw [lg_entry_eq]
  generalize (lg_sl [.ref a0, .int a1] ++ List.replicate (3 - (lg_sl [.ref a0, .int a1]).length) Slot.unset).toArray = ls at hl ⊢
  have hl : lv_has ls 3 [(0, .ref a0), (1, .int a1)] := hl
  rw [f_X7_breakVow] at h
  refine lv_aload_n hx hb dX7_breakVow_0 rfl (lv_at hl 0 rfl) ?_
  refine lv_aload_n hx hb dX7_breakVow_1 rfl (lv_at hl 0 rfl) ?_
  refine lv_iload_n hx hb dX7_breakVow_2 rfl (lv_at hl 1 rfl) ?_
  replace h := bd h
  obtain ⟨_, q1, h⟩ := h
  replace h := bd h
  obtain ⟨x3, q2, h⟩ := h
  refine c_X7_isBlock ⟨hx, hb, hml, hown, hts⟩ hl.1 hK hP hS wd_1044 ⟨(Nat.le_of_ble_eq_true rfl), (Nat.le_of_ble_eq_true rfl)⟩ q2 q1 (Nat.le_of_ble_eq_true rfl) dX7_breakVow_3 ⟨(Nat.le_of_ble_eq_true rfl), (Nat.le_of_ble_eq_true rfl)⟩ (fun H locs hP hS => ?_)
  replace h := bd h
  obtain ⟨t4, ht, h⟩ := h
  have K4 : ∀ (H : Heap) (locs : List Loc) (ls : Array Slot), SP D cy S H → (∀ a, S a ≠ none → (dm S s.heap.size) a) → va_S (dm S s.heap.size) s.heap H locs → lv_has ls 3 [(0, .ref a0), (1, .int a1)] → W p l e rm_X7_breakVow s m ([.ref a0, .int a1] : List Value).toArray below meth c H locs 0 0 (MQ below (va_Qi (fun r' (_ : Unit) => r' = r) (fun _ t => PoS D cy S1 (dm S s.heap.size) t) (dm S s.heap.size)) ([.ref a0, .int a1] : List Value).toArray s 0 0 (dm S s.heap.size)) (F0 m 14 ls [.int t4, .ref a0]) := by
    intro H locs ls hP hD hS hl
    replace h := bd h
    obtain ⟨Z6, q7, h⟩ := h
    refine fp_6_5 hx hb hts hown hK hP hD hS wd_892 q7 dX7_breakVow_14 (fun H locs hz9 hP hD hS => ?_)
    refine lv_aload_n hx hb dX7_breakVow_17 rfl (lv_at hl 0 rfl) ?_
    replace h := bd h
    obtain ⟨x8, q9, h⟩ := h
    refine fg_6_5 hx hb hts hown hK hP wd_892 q9 dX7_breakVow_18 ?_
    refine lv_if_le (tgt := 26) hx hb dX7_breakVow_21 (by decide) (fun c10 => ?_) (fun c10 => ?_)
    · replace h := ifp c10 h
      refine lv_aload_n hx hb dX7_breakVow_26 rfl (lv_at hl 0 rfl) ?_
      replace h := bd h
      obtain ⟨_, q11, h⟩ := h
      replace h := bd h
      obtain ⟨z13, q12, h⟩ := h
      refine c_X7_save ⟨hx, hb, hml, hown, hts⟩ hl.1 hK hP hD hA hS wd_941 ⟨(Nat.le_of_ble_eq_true rfl), (Nat.le_of_ble_eq_true rfl)⟩ q12 q11 (Nat.le_of_ble_eq_true rfl) dX7_breakVow_27 ⟨(Nat.le_of_ble_eq_true rfl), (Nat.le_of_ble_eq_true rfl)⟩ (fun H locs hP hD hS => ?_)
      refine lv_aload_n hx hb dX7_breakVow_30 rfl (lv_at hl 0 rfl) ?_
      refine lv_iload_n hx hb dX7_breakVow_31 rfl (lv_at hl 1 rfl) ?_
      replace h := bd h
      obtain ⟨_, q14, h⟩ := h
      replace h := bd h
      obtain ⟨x16, q15, h⟩ := h
      refine c_X7_fineOf ⟨hx, hb, hml, hown, hts⟩ hl.1 hK hP hS wd_1100 ⟨(Nat.le_of_ble_eq_true rfl), (Nat.le_of_ble_eq_true rfl)⟩ q15 q14 (Nat.le_of_ble_eq_true rfl) dX7_breakVow_32 ⟨(Nat.le_of_ble_eq_true rfl), (Nat.le_of_ble_eq_true rfl)⟩ (fun H locs hP hS => ?_)
      refine lv_istore_n (lv' := [(2, .int x16), (0, .ref a0), (1, .int a1)]) hx hb dX7_breakVow_35 rfl hl (by decide) rfl (fun ls hl => ?_)
      refine lv_aload_n hx hb dX7_breakVow_36 rfl (lv_at hl 1 rfl) ?_
      refine lv_iload_n hx hb dX7_breakVow_37 rfl (lv_at hl 2 rfl) ?_
      refine lv_bipush (v := 6) hx hb dX7_breakVow_38 (by decide) ?_
      refine lv_aload_n hx hb dX7_breakVow_40 rfl (lv_at hl 1 rfl) ?_
      refine lv_iload_n hx hb dX7_breakVow_41 rfl (lv_at hl 2 rfl) ?_
      refine lv_bipush (v := 6) hx hb dX7_breakVow_42 (by decide) ?_
      replace h := bd h
      obtain ⟨_, q17, h⟩ := h
      replace h := bd h
      obtain ⟨x19, q18, h⟩ := h
      refine c_X7_of ⟨hx, hb, hml, hown, hts⟩ hl.1 hK hP hS wd_961 ⟨(Nat.le_of_ble_eq_true rfl), (Nat.le_of_ble_eq_true rfl)⟩ q18 q17 (Nat.le_of_ble_eq_true rfl) dX7_breakVow_44 ⟨(Nat.le_of_ble_eq_true rfl), (Nat.le_of_ble_eq_true rfl)⟩ (fun H locs hP hS => ?_)
      refine lv_iload_n hx hb dX7_breakVow_47 rfl (lv_at hl 0 rfl) ?_
      refine lv_iadd hx hb dX7_breakVow_48 ?_
      replace h := bd h
      obtain ⟨_, q20, h⟩ := h
      replace h := bd h
      obtain ⟨z22, q21, h⟩ := h
      refine c_X7_setOf ⟨hx, hb, hml, hown, hts⟩ hl.1 hK hP hD hA hS wd_949 ⟨(Nat.le_of_ble_eq_true rfl), (Nat.le_of_ble_eq_true rfl)⟩ q21 q20 (Nat.le_of_ble_eq_true rfl) dX7_breakVow_49 ⟨(Nat.le_of_ble_eq_true rfl), (Nat.le_of_ble_eq_true rfl)⟩ (fun H locs hP hD hS => ?_)
      refine lv_aload_n hx hb dX7_breakVow_52 rfl (lv_at hl 1 rfl) ?_
      refine lv_iload_n hx hb dX7_breakVow_53 rfl (lv_at hl 2 rfl) ?_
      replace h := bd h
      obtain ⟨_, q23, h⟩ := h
      replace h := bd h
      obtain ⟨z25, q24, h⟩ := h
      refine c_X7_choose ⟨hx, hb, hml, hown, hts⟩ hl.1 hK hP hD hA hS wd_953 ⟨(Nat.le_of_ble_eq_true rfl), (Nat.le_of_ble_eq_true rfl)⟩ q24 q23 (Nat.le_of_ble_eq_true rfl) dX7_breakVow_54 ⟨(Nat.le_of_ble_eq_true rfl), (Nat.le_of_ble_eq_true rfl)⟩ (fun H locs hP hD hS => ?_)
      refine lv_iload_n hx hb dX7_breakVow_57 rfl (lv_at hl 0 rfl) ?_
      cases h
      exact e_im hx hb hlocks hr hP hD hS (Nat.le_of_ble_eq_true rfl) (Nat.le_of_ble_eq_true rfl) dX7_breakVow_58
    · replace h := ifn c10 h
      refine lv_iconst (v := 0) hx hb dX7_breakVow_24 (by decide) ?_
      cases h
      exact e_im hx hb hlocks hr hP hD hS (Nat.le_of_ble_eq_true rfl) (Nat.le_of_ble_eq_true rfl) dX7_breakVow_25
  replace h := ht
  refine lv_if_eq (tgt := 13) hx hb dX7_breakVow_6 (by decide) (fun c5 => ?_) (fun c5 => ?_)
  · replace h := ifp c5 h
    refine lv_iconst (v := 1) hx hb dX7_breakVow_13 (by decide) ?_
    cases h
    exact K4 _ _ _ hP hD hS (lv_sub hl [0, 1] rfl)
  · replace h := ifn c5 h
    refine lv_iconst (v := 0) hx hb dX7_breakVow_9 (by decide) ?_
    refine lv_goto (tgt := 14) hx hb dX7_breakVow_10 (by decide) ?_
    cases h
    exact K4 _ _ _ hP hD hS (lv_sub hl [0, 1] rfl)
set_option maxRecDepth 100000 in
theorem c_X7_breakVow {p : Program} {l : Launch} {e : Env} {R : Room} {s : State} {m : MethodId} {args : Array Value} {below : List Frame} {meth : Method} {c : Code} {H : Heap} {locs : List Loc} {cells slots : Nat} {Q : State → Prop} {cc : ByteArray} {pc index nL : Nat} {ls : Array Slot} {rest : List Value} {D : va_G} {cy : Nat → ClassId} {A0 : Nat → Prop} {S : St} {H0 : Heap} {own : String} {u : Unit} {a0 : Nat} {a1 : Int32} {r : Int32} {S1 : St}  (hF : CallFix p m c cc nL s args ALLW own) (hsz : ls.size = nL) (hK : va_K D vwCl (tyL cy) s) (hP : SP D cy S H) (hD : ∀ a, S a ≠ none → A0 a) (hA : ∀ q, H0.size ≤ q → A0 q) (hS : va_S A0 H0 H locs) (hk : Cond.methodLink own index yX7_breakVow ∈ ALLW) (hR : rm_X7_breakVow.frames + 1 ≤ R.frames ∧ 8 + (3 + 11) + rm_X7_breakVow.locals ≤ R.locals) (h : f_X7_breakVow S a0 a1 = some (r, S1)) (hc : oO S a0 6 = some u) (hW : (rest.map fun v => v.category).sum ≤ 8) (hdg : decode cc pc = .ok (.invokevirtual index, 3)) (hf : cells + 0 ≤ R.cells ∧ slots + 0 ≤ R.slots)
    (kk : ∀ (H1 : Heap) (locs1 : List Loc), SP D cy S1 H1 → (∀ a, S1 a ≠ none → A0 a) → va_S A0 H0 H1 locs1 → W p l e R s m args below meth c H1 locs1 (cells + 0) (slots + 0) Q (F0 m (pc + 3) ls (.int r :: rest))) : W p l e R s m args below meth c H locs cells slots Q (F0 m pc ls (.int a1 :: .ref a0 :: rest)) := by
  exact k_iVm (As := [.int a1]) hF hsz (m_X7_breakVow l D cy H.size S a0 a1 r S1 h) (cwV_of (n := 1) hF.2.2.2.2 hk wd_1097 wd_1098 wd_75 wd_1099 rfl rfl (by decide +kernel) hR) rfl hK hP hD hA hS (ci := 6) hc rfl hW rfl hdg hf kk
/-- VowBlocksModel.isQuestion(I)Z -/
def f_X7_isQuestion (a0 : Int32) : Option (Int32) :=
  (f_X7_within a0 0 2).bind fun x2 =>
  (zz x2).bind fun _ =>
  some x2
abbrev rm_X7_isQuestion : Room := { frames := 1, cells := 0, slots := 0, locals := 22 }
set_option maxHeartbeats 4000000 in
set_option maxRecDepth 100000 in
theorem m_X7_isQuestion (l : Launch) (D : va_G) (cy : Nat → ClassId) (S : St) (a0 : Int32) (r : Int32) (h : f_X7_isQuestion a0 = some r) : Met l yX7_isQuestion (wsA yX7_isQuestion cX7_isQuestion 1 (some .boolean)) rm_X7_isQuestion (va_Pc [.int a0] (PS D cy S)) (va_Qi (fun r' (_ : Unit) => r' = r) (fun _ _ => True) noA) 0 0 noA := by
  refine Met.ofW (cc := cX7_isQuestion) (maxL := 1) (ret := (some .boolean)) (by decide) rfl ?_
  intro p e s m args below meth c s₁ B hml hv
  obtain ⟨rfl, hP, hK⟩ := hv
  have hx := B.exec
  have hb := B.bytes
  have hr := B.returns
  have hts9 := atoms_spec (ws := wsA yX7_isQuestion cX7_isQuestion 1 (some .boolean)) B.pre
  have hts : ∀ w ∈ ALLW, w.before _ s = true := fun w h => hts9 w (List.mem_cons_of_mem _ h)
  have hown : s.vm.findClass RX7 = some m.cls := findClass_of_methodNamed B.named
  have hlocks := B.notSynchronized
  have hS : va_S noA s.heap s.heap [] := va_S.rf
  have hl := lv_entry [.int a0] (n := 1) (Nat.le_of_ble_eq_true rfl)
  rw [lg_entry_eq]
  generalize (lg_sl [.int a0] ++ List.replicate (1 - (lg_sl [.int a0]).length) Slot.unset).toArray = ls at hl ⊢
  have hl : lv_has ls 1 [(0, .int a0)] := hl
  rw [f_X7_isQuestion] at h
  refine lv_iload_n hx hb dX7_isQuestion_0 rfl (lv_at hl 0 rfl) ?_
  refine lv_iconst (v := 0) hx hb dX7_isQuestion_1 (by decide) ?_
  refine lv_iconst (v := 2) hx hb dX7_isQuestion_2 (by decide) ?_
  replace h := bd h
  obtain ⟨x2, q1, h⟩ := h
  refine c_X7_within ⟨hx, hb, hml, hown, hts⟩ hl.1 hK hP hS wd_938 ⟨(Nat.le_of_ble_eq_true rfl), (Nat.le_of_ble_eq_true rfl)⟩ q1 (Nat.le_of_ble_eq_true rfl) dX7_isQuestion_3 ⟨(Nat.le_of_ble_eq_true rfl), (Nat.le_of_ble_eq_true rfl)⟩ (fun H locs hP hS => ?_)
  replace h := bd h
  obtain ⟨_, q3, h⟩ := h
  cases h
  exact e_zp hx hb hlocks (zz_spec q3) hr hS (Nat.le_of_ble_eq_true rfl) (Nat.le_of_ble_eq_true rfl) dX7_isQuestion_6
set_option maxRecDepth 100000 in
theorem c_X7_isQuestion {p : Program} {l : Launch} {e : Env} {R : Room} {s : State} {m : MethodId} {args : Array Value} {below : List Frame} {meth : Method} {c : Code} {H : Heap} {locs : List Loc} {cells slots : Nat} {Q : State → Prop} {cc : ByteArray} {pc index nL : Nat} {ls : Array Slot} {rest : List Value} {D : va_G} {cy : Nat → ClassId} {A0 : Nat → Prop} {S : St} {H0 : Heap} {own : String} {a0 : Int32} {r : Int32}  (hF : CallFix p m c cc nL s args ALLW own) (hsz : ls.size = nL) (hK : va_K D vwCl (tyL cy) s) (hP : SP D cy S H) (hS : va_S A0 H0 H locs) (hk : Cond.methodLink own index yX7_isQuestion ∈ ALLW) (hR : rm_X7_isQuestion.frames + 1 ≤ R.frames ∧ 8 + (1 + 11) + rm_X7_isQuestion.locals ≤ R.locals) (h : f_X7_isQuestion a0 = some r) (hW : (rest.map fun v => v.category).sum ≤ 8) (hdg : decode cc pc = .ok (.invokestatic index, 3)) (hf : cells + 0 ≤ R.cells ∧ slots + 0 ≤ R.slots)
    (kk : ∀ (H1 : Heap) (locs1 : List Loc), SP D cy S H1 → va_S A0 H0 H1 locs1 → W p l e R s m args below meth c H1 locs1 (cells + 0) (slots + 0) Q (F0 m (pc + 3) ls (.int r :: rest))) : W p l e R s m args below meth c H locs cells slots Q (F0 m pc ls (.int a0 :: rest)) := by
  exact k_iSp (As := [.int a0]) hF hsz (m_X7_isQuestion l D cy S a0 r h) (cwS_of (n := 1) hF.2.2.2.2 hk wd_1113 wd_75 wd_1114 rfl rfl (by decide +kernel) hR) rfl hK hP hS hW rfl hdg hf kk
/-- VowBlocksModel.workBy(III)I -/
def f_X7_workBy (S : St) (a0 : Nat) (a1 : Int32) (a2 : Int32) (a3 : Int32) : Option (Int32) :=
  (oO S a0 6).bind fun _ =>
  (f_X7_firstOf S a0 a3).bind fun x3 =>
  (gI S a0 6 7).bind fun x4 =>
  (
    if x4 ≤ x3 then
      (gI S a0 6 7).bind fun x8 =>
      some x8
    else
      some (x3 + 1)
  : Option (Int32)).bind fun t6 =>
  (
    if a2 = 2 then
      some t6
    else
      (gI S a0 6 7).bind fun x12 =>
      some x12
  : Option (Int32)).bind fun t10 =>
  if a1 = 1 then
    (oO S a0 6).bind fun _ =>
    (f_X7_runsOf S a0 t10).bind fun x22 =>
    some x22
  else
    if a1 = 2 then
      (oO S a0 6).bind fun _ =>
      (f_X7_different S a0).bind fun x25 =>
      (
        if a2 = 1 then
          (gI S a0 6 7).bind fun x31 =>
          some x31
        else
          (gI S a0 6 7).bind fun x28 =>
          if x3 = x28 then
            some 0
          else
            some t10
      : Option (Int32)).bind fun t26 =>
      some (x25 + t26)
    else
      if a1 = 4 then
        (
          if a2 = 2 then
            (gI S a0 6 7).bind fun x46 =>
            some x46
          else
            if a2 = 0 then
              (oO S a0 6).bind fun _ =>
              (f_X7_commonOne S a0).bind fun x41 =>
              if a3 = x41 then
                some 1
              else
                (oO S a0 6).bind fun _ =>
                (f_X7_rare S a0).bind fun x45 =>
                some (1 + x45)
            else
              (oO S a0 6).bind fun _ =>
              (f_X7_rare S a0).bind fun x38 =>
              some (1 + x38)
        : Option (Int32)).bind fun t33 =>
        some t33
      else
        if a1 = 5 then
          (
            if a2 = 1 then
              some t10
            else
              (oO S a0 6).bind fun _ =>
              (f_X7_least S a0).bind fun x52 =>
              if a3 < x52 then
                some 1
              else
                (oO S a0 6).bind fun _ =>
                (f_X7_least S a0).bind fun x56 =>
                (oO S a0 6).bind fun _ =>
                (f_X7_frameBits S a0).bind fun x59 =>
                if a3 < (x56 + (1 <<< (x59 &&& 31))) then
                  some t10
                else
                  some 1
          : Option (Int32)).bind fun t48 =>
          some t48
        else
          some t10
abbrev rm_X7_workBy : Room := { frames := 3, cells := 0, slots := 0, locals := 66 }
set_option maxHeartbeats 4000000 in
set_option maxRecDepth 100000 in
theorem m_X7_workBy (l : Launch) (D : va_G) (cy : Nat → ClassId) (S : St) (a0 : Nat) (a1 : Int32) (a2 : Int32) (a3 : Int32) (r : Int32) (h : f_X7_workBy S a0 a1 a2 a3 = some r) : Met l yX7_workBy (wsA yX7_workBy cX7_workBy 7 (some .int)) rm_X7_workBy (va_Pc [.ref a0, .int a1, .int a2, .int a3] (PS D cy S)) (va_Qi (fun r' (_ : Unit) => r' = r) (fun _ _ => True) noA) 0 0 noA := by
  refine Met.ofW (cc := cX7_workBy) (maxL := 7) (ret := (some .int)) (by decide) rfl ?_
  intro p e s m args below meth c s₁ B hml hv
  obtain ⟨rfl, hP, hK⟩ := hv
  have hx := B.exec
  have hb := B.bytes
  have hr := B.returns
  have hts9 := atoms_spec (ws := wsA yX7_workBy cX7_workBy 7 (some .int)) B.pre
  have hts : ∀ w ∈ ALLW, w.before _ s = true := fun w h => hts9 w (List.mem_cons_of_mem _ h)
  have hown : s.vm.findClass RX7 = some m.cls := findClass_of_methodNamed B.named
  have hlocks := B.notSynchronized
  have hS : va_S noA s.heap s.heap [] := va_S.rf
  have hl := lv_entry [.ref a0, .int a1, .int a2, .int a3] (n := 7) (Nat.le_of_ble_eq_true rfl)
  rw [lg_entry_eq]
  generalize (lg_sl [.ref a0, .int a1, .int a2, .int a3] ++ List.replicate (7 - (lg_sl [.ref a0, .int a1, .int a2, .int a3]).length) Slot.unset).toArray = ls at hl ⊢
  have hl : lv_has ls 7 [(0, .ref a0), (1, .int a1), (2, .int a2), (3, .int a3)] := hl
  rw [f_X7_workBy] at h
  refine lv_aload_n hx hb dX7_workBy_0 rfl (lv_at hl 0 rfl) ?_
  refine lv_iload_n hx hb dX7_workBy_1 rfl (lv_at hl 3 rfl) ?_
  replace h := bd h
  obtain ⟨_, q1, h⟩ := h
  replace h := bd h
  obtain ⟨x3, q2, h⟩ := h
  refine c_X7_firstOf ⟨hx, hb, hml, hown, hts⟩ hl.1 hK hP hS wd_981 ⟨(Nat.le_of_ble_eq_true rfl), (Nat.le_of_ble_eq_true rfl)⟩ q2 q1 (Nat.le_of_ble_eq_true rfl) dX7_workBy_2 ⟨(Nat.le_of_ble_eq_true rfl), (Nat.le_of_ble_eq_true rfl)⟩ (fun H locs hP hS => ?_)
  refine lv_istore (lv' := [(4, .int x3), (0, .ref a0), (1, .int a1), (2, .int a2), (3, .int a3)]) hx hb dX7_workBy_5 hl (by decide) rfl (fun ls hl => ?_)
  refine lv_iload hx hb dX7_workBy_7 (lv_at hl 0 rfl) ?_
  refine lv_aload_n hx hb dX7_workBy_9 rfl (lv_at hl 1 rfl) ?_
  replace h := bd h
  obtain ⟨x4, q5, h⟩ := h
  refine fg_6_7 hx hb hts hown hK hP wd_894 q5 dX7_workBy_10 ?_
  replace h := bd h
  obtain ⟨t6, ht, h⟩ := h
  have K6 : ∀ (H : Heap) (locs : List Loc) (ls : Array Slot), SP D cy S H → va_S noA s.heap H locs → lv_has ls 7 [(0, .ref a0), (1, .int a1), (2, .int a2), (3, .int a3), (4, .int x3)] → W p l e rm_X7_workBy s m ([.ref a0, .int a1, .int a2, .int a3] : List Value).toArray below meth c H locs 0 0 (MQ below (va_Qi (fun r' (_ : Unit) => r' = r) (fun _ _ => True) noA) ([.ref a0, .int a1, .int a2, .int a3] : List Value).toArray s 0 0 noA) (F0 m 27 ls [.int t6]) := by
    intro H locs ls hP hS hl
    refine lv_istore (lv' := [(5, .int t6), (0, .ref a0), (1, .int a1), (2, .int a2), (3, .int a3), (4, .int x3)]) hx hb dX7_workBy_27 hl (by decide) rfl (fun ls hl => ?_)
    refine lv_iload_n hx hb dX7_workBy_29 rfl (lv_at hl 3 rfl) ?_
    refine lv_iconst (v := 2) hx hb dX7_workBy_30 (by decide) ?_
    replace h := bd h
    obtain ⟨t10, ht, h⟩ := h
    have K10 : ∀ (H : Heap) (locs : List Loc) (ls : Array Slot), SP D cy S H → va_S noA s.heap H locs → lv_has ls 7 [(0, .ref a0), (1, .int a1), (2, .int a2), (3, .int a3), (4, .int x3)] → W p l e rm_X7_workBy s m ([.ref a0, .int a1, .int a2, .int a3] : List Value).toArray below meth c H locs 0 0 (MQ below (va_Qi (fun r' (_ : Unit) => r' = r) (fun _ _ => True) noA) ([.ref a0, .int a1, .int a2, .int a3] : List Value).toArray s 0 0 noA) (F0 m 43 ls [.int t10]) := by
      intro H locs ls hP hS hl
      refine lv_istore (lv' := [(6, .int t10), (0, .ref a0), (1, .int a1), (2, .int a2), (3, .int a3), (4, .int x3)]) hx hb dX7_workBy_43 hl (by decide) rfl (fun ls hl => ?_)
      refine lv_iload_n hx hb dX7_workBy_45 rfl (lv_at hl 2 rfl) ?_
      have K19 : (some t10) = some r → W p l e rm_X7_workBy s m ([.ref a0, .int a1, .int a2, .int a3] : List Value).toArray below meth c H locs 0 0 (MQ below (va_Qi (fun r' (_ : Unit) => r' = r) (fun _ _ => True) noA) ([.ref a0, .int a1, .int a2, .int a3] : List Value).toArray s 0 0 noA) (F0 m 190 ls []) := by
        intro h
        refine lv_iload hx hb dX7_workBy_190 (lv_at hl 0 rfl) ?_
        cases h
        exact e_ip hx hb hlocks hr hS (Nat.le_of_ble_eq_true rfl) (Nat.le_of_ble_eq_true rfl) dX7_workBy_192
      by_cases c14 : a1 = 1
      · replace h := ifp c14 h
        refine lv_tableIn (off := 34) (tgt := 80) hx hb dX7_workBy_46 (by rw [c14]; decide) (by rw [c14]; decide) (by rw [c14]; rfl) (by decide) ?_
        refine lv_aload_n hx hb dX7_workBy_80 rfl (lv_at hl 1 rfl) ?_
        refine lv_iload hx hb dX7_workBy_81 (lv_at hl 0 rfl) ?_
        replace h := bd h
        obtain ⟨_, q20, h⟩ := h
        replace h := bd h
        obtain ⟨x22, q21, h⟩ := h
        refine c_X7_runsOf ⟨hx, hb, hml, hown, hts⟩ hl.1 hK hP hS wd_973 ⟨(Nat.le_of_ble_eq_true rfl), (Nat.le_of_ble_eq_true rfl)⟩ q21 q20 (Nat.le_of_ble_eq_true rfl) dX7_workBy_83 ⟨(Nat.le_of_ble_eq_true rfl), (Nat.le_of_ble_eq_true rfl)⟩ (fun H locs hP hS => ?_)
        cases h
        exact e_ip hx hb hlocks hr hS (Nat.le_of_ble_eq_true rfl) (Nat.le_of_ble_eq_true rfl) dX7_workBy_86
      · replace h := ifn c14 h
        by_cases c15 : a1 = 2
        · replace h := ifp c15 h
          refine lv_tableIn (off := 41) (tgt := 87) hx hb dX7_workBy_46 (by rw [c15]; decide) (by rw [c15]; decide) (by rw [c15]; rfl) (by decide) ?_
          refine lv_aload_n hx hb dX7_workBy_87 rfl (lv_at hl 1 rfl) ?_
          replace h := bd h
          obtain ⟨_, q23, h⟩ := h
          replace h := bd h
          obtain ⟨x25, q24, h⟩ := h
          refine c_X7_different ⟨hx, hb, hml, hown, hts⟩ hl.1 hK hP hS wd_977 ⟨(Nat.le_of_ble_eq_true rfl), (Nat.le_of_ble_eq_true rfl)⟩ q24 q23 (Nat.le_of_ble_eq_true rfl) dX7_workBy_88 ⟨(Nat.le_of_ble_eq_true rfl), (Nat.le_of_ble_eq_true rfl)⟩ (fun H locs hP hS => ?_)
          refine lv_iload_n hx hb dX7_workBy_91 rfl (lv_at hl 3 rfl) ?_
          refine lv_iconst (v := 1) hx hb dX7_workBy_92 (by decide) ?_
          replace h := bd h
          obtain ⟨t26, ht, h⟩ := h
          have K26 : ∀ (H : Heap) (locs : List Loc) (ls : Array Slot), SP D cy S H → va_S noA s.heap H locs → lv_has ls 7 [] → W p l e rm_X7_workBy s m ([.ref a0, .int a1, .int a2, .int a3] : List Value).toArray below meth c H locs 0 0 (MQ below (va_Qi (fun r' (_ : Unit) => r' = r) (fun _ _ => True) noA) ([.ref a0, .int a1, .int a2, .int a3] : List Value).toArray s 0 0 noA) (F0 m 118 ls [.int t26, .int x25]) := by
            intro H locs ls hP hS hl
            refine lv_iadd hx hb dX7_workBy_118 ?_
            cases h
            exact e_ip hx hb hlocks hr hS (Nat.le_of_ble_eq_true rfl) (Nat.le_of_ble_eq_true rfl) dX7_workBy_119
          replace h := ht
          refine lv_icmp_ne (tgt := 103) hx hb dX7_workBy_93 (by decide) (fun c27 => ?_) (fun c27 => ?_)
          · replace h := ifn c27 h
            refine lv_iload hx hb dX7_workBy_103 (lv_at hl 5 rfl) ?_
            refine lv_aload_n hx hb dX7_workBy_105 rfl (lv_at hl 1 rfl) ?_
            replace h := bd h
            obtain ⟨x28, q29, h⟩ := h
            refine fg_6_7 hx hb hts hown hK hP wd_894 q29 dX7_workBy_106 ?_
            refine lv_icmp_ne (tgt := 116) hx hb dX7_workBy_109 (by decide) (fun c30 => ?_) (fun c30 => ?_)
            · replace h := ifn c30 h
              refine lv_iload hx hb dX7_workBy_116 (lv_at hl 0 rfl) ?_
              cases h
              exact K26 _ _ _ hP hS (lv_sub hl [] rfl)
            · replace h := ifp c30 h
              refine lv_iconst (v := 0) hx hb dX7_workBy_112 (by decide) ?_
              refine lv_goto (tgt := 118) hx hb dX7_workBy_113 (by decide) ?_
              cases h
              exact K26 _ _ _ hP hS (lv_sub hl [] rfl)
          · replace h := ifp c27 h
            refine lv_aload_n hx hb dX7_workBy_96 rfl (lv_at hl 1 rfl) ?_
            replace h := bd h
            obtain ⟨x31, q32, h⟩ := h
            refine fg_6_7 hx hb hts hown hK hP wd_894 q32 dX7_workBy_97 ?_
            refine lv_goto (tgt := 118) hx hb dX7_workBy_100 (by decide) ?_
            cases h
            exact K26 _ _ _ hP hS (lv_sub hl [] rfl)
        · replace h := ifn c15 h
          by_cases c16 : a1 = 3
          · replace h := ifn (by rw [c16]; decide) h
            replace h := ifn (by rw [c16]; decide) h
            refine lv_tableIn (off := 144) (tgt := 190) hx hb dX7_workBy_46 (by rw [c16]; decide) (by rw [c16]; decide) (by rw [c16]; rfl) (by decide) ?_
            exact K19 h
          · by_cases c17 : a1 = 4
            · replace h := ifp c17 h
              refine lv_tableIn (off := 74) (tgt := 120) hx hb dX7_workBy_46 (by rw [c17]; decide) (by rw [c17]; decide) (by rw [c17]; rfl) (by decide) ?_
              refine lv_iload_n hx hb dX7_workBy_120 rfl (lv_at hl 3 rfl) ?_
              refine lv_iconst (v := 2) hx hb dX7_workBy_121 (by decide) ?_
              replace h := bd h
              obtain ⟨t33, ht, h⟩ := h
              have K33 : ∀ (H : Heap) (locs : List Loc) (ls : Array Slot), SP D cy S H → va_S noA s.heap H locs → lv_has ls 7 [] → W p l e rm_X7_workBy s m ([.ref a0, .int a1, .int a2, .int a3] : List Value).toArray below meth c H locs 0 0 (MQ below (va_Qi (fun r' (_ : Unit) => r' = r) (fun _ _ => True) noA) ([.ref a0, .int a1, .int a2, .int a3] : List Value).toArray s 0 0 noA) (F0 m 154 ls [.int t33]) := by
                intro H locs ls hP hS hl
                cases h
                exact e_ip hx hb hlocks hr hS (Nat.le_of_ble_eq_true rfl) (Nat.le_of_ble_eq_true rfl) dX7_workBy_154
              replace h := ht
              refine lv_icmp_ne (tgt := 132) hx hb dX7_workBy_122 (by decide) (fun c34 => ?_) (fun c34 => ?_)
              · replace h := ifn c34 h
                refine lv_iload_n hx hb dX7_workBy_132 rfl (lv_at hl 3 rfl) ?_
                refine lv_if_ne (tgt := 148) hx hb dX7_workBy_133 (by decide) (fun c35 => ?_) (fun c35 => ?_)
                · replace h := ifn c35 h
                  refine lv_iconst (v := 1) hx hb dX7_workBy_148 (by decide) ?_
                  refine lv_aload_n hx hb dX7_workBy_149 rfl (lv_at hl 1 rfl) ?_
                  replace h := bd h
                  obtain ⟨_, q36, h⟩ := h
                  replace h := bd h
                  obtain ⟨x38, q37, h⟩ := h
                  refine c_X7_rare ⟨hx, hb, hml, hown, hts⟩ hl.1 hK hP hS wd_992 ⟨(Nat.le_of_ble_eq_true rfl), (Nat.le_of_ble_eq_true rfl)⟩ q37 q36 (Nat.le_of_ble_eq_true rfl) dX7_workBy_150 ⟨(Nat.le_of_ble_eq_true rfl), (Nat.le_of_ble_eq_true rfl)⟩ (fun H locs hP hS => ?_)
                  refine lv_iadd hx hb dX7_workBy_153 ?_
                  cases h
                  exact K33 _ _ _ hP hS (lv_sub hl [] rfl)
                · replace h := ifp c35 h
                  refine lv_iload_n hx hb dX7_workBy_136 rfl (lv_at hl 4 rfl) ?_
                  refine lv_aload_n hx hb dX7_workBy_137 rfl (lv_at hl 1 rfl) ?_
                  replace h := bd h
                  obtain ⟨_, q39, h⟩ := h
                  replace h := bd h
                  obtain ⟨x41, q40, h⟩ := h
                  refine c_X7_commonOne ⟨hx, hb, hml, hown, hts⟩ hl.1 hK hP hS wd_996 ⟨(Nat.le_of_ble_eq_true rfl), (Nat.le_of_ble_eq_true rfl)⟩ q40 q39 (Nat.le_of_ble_eq_true rfl) dX7_workBy_138 ⟨(Nat.le_of_ble_eq_true rfl), (Nat.le_of_ble_eq_true rfl)⟩ (fun H locs hP hS => ?_)
                  refine lv_icmp_ne (tgt := 148) hx hb dX7_workBy_141 (by decide) (fun c42 => ?_) (fun c42 => ?_)
                  · replace h := ifn c42 h
                    refine lv_iconst (v := 1) hx hb dX7_workBy_148 (by decide) ?_
                    refine lv_aload_n hx hb dX7_workBy_149 rfl (lv_at hl 1 rfl) ?_
                    replace h := bd h
                    obtain ⟨_, q43, h⟩ := h
                    replace h := bd h
                    obtain ⟨x45, q44, h⟩ := h
                    refine c_X7_rare ⟨hx, hb, hml, hown, hts⟩ hl.1 hK hP hS wd_992 ⟨(Nat.le_of_ble_eq_true rfl), (Nat.le_of_ble_eq_true rfl)⟩ q44 q43 (Nat.le_of_ble_eq_true rfl) dX7_workBy_150 ⟨(Nat.le_of_ble_eq_true rfl), (Nat.le_of_ble_eq_true rfl)⟩ (fun H locs hP hS => ?_)
                    refine lv_iadd hx hb dX7_workBy_153 ?_
                    cases h
                    exact K33 _ _ _ hP hS (lv_sub hl [] rfl)
                  · replace h := ifp c42 h
                    refine lv_iconst (v := 1) hx hb dX7_workBy_144 (by decide) ?_
                    refine lv_goto (tgt := 154) hx hb dX7_workBy_145 (by decide) ?_
                    cases h
                    exact K33 _ _ _ hP hS (lv_sub hl [] rfl)
              · replace h := ifp c34 h
                refine lv_aload_n hx hb dX7_workBy_125 rfl (lv_at hl 1 rfl) ?_
                replace h := bd h
                obtain ⟨x46, q47, h⟩ := h
                refine fg_6_7 hx hb hts hown hK hP wd_894 q47 dX7_workBy_126 ?_
                refine lv_goto (tgt := 154) hx hb dX7_workBy_129 (by decide) ?_
                cases h
                exact K33 _ _ _ hP hS (lv_sub hl [] rfl)
            · replace h := ifn c17 h
              by_cases c18 : a1 = 5
              · replace h := ifp c18 h
                refine lv_tableIn (off := 109) (tgt := 155) hx hb dX7_workBy_46 (by rw [c18]; decide) (by rw [c18]; decide) (by rw [c18]; rfl) (by decide) ?_
                refine lv_iload_n hx hb dX7_workBy_155 rfl (lv_at hl 3 rfl) ?_
                refine lv_iconst (v := 1) hx hb dX7_workBy_156 (by decide) ?_
                replace h := bd h
                obtain ⟨t48, ht, h⟩ := h
                have K48 : ∀ (H : Heap) (locs : List Loc) (ls : Array Slot), SP D cy S H → va_S noA s.heap H locs → lv_has ls 7 [] → W p l e rm_X7_workBy s m ([.ref a0, .int a1, .int a2, .int a3] : List Value).toArray below meth c H locs 0 0 (MQ below (va_Qi (fun r' (_ : Unit) => r' = r) (fun _ _ => True) noA) ([.ref a0, .int a1, .int a2, .int a3] : List Value).toArray s 0 0 noA) (F0 m 189 ls [.int t48]) := by
                  intro H locs ls hP hS hl
                  cases h
                  exact e_ip hx hb hlocks hr hS (Nat.le_of_ble_eq_true rfl) (Nat.le_of_ble_eq_true rfl) dX7_workBy_189
                replace h := ht
                refine lv_icmp_eq (tgt := 187) hx hb dX7_workBy_157 (by decide) (fun c49 => ?_) (fun c49 => ?_)
                · replace h := ifp c49 h
                  refine lv_iload hx hb dX7_workBy_187 (lv_at hl 0 rfl) ?_
                  cases h
                  exact K48 _ _ _ hP hS (lv_sub hl [] rfl)
                · replace h := ifn c49 h
                  refine lv_iload_n hx hb dX7_workBy_160 rfl (lv_at hl 4 rfl) ?_
                  refine lv_aload_n hx hb dX7_workBy_161 rfl (lv_at hl 1 rfl) ?_
                  replace h := bd h
                  obtain ⟨_, q50, h⟩ := h
                  replace h := bd h
                  obtain ⟨x52, q51, h⟩ := h
                  refine c_X7_least ⟨hx, hb, hml, hown, hts⟩ hl.1 hK hP hS wd_1008 ⟨(Nat.le_of_ble_eq_true rfl), (Nat.le_of_ble_eq_true rfl)⟩ q51 q50 (Nat.le_of_ble_eq_true rfl) dX7_workBy_162 ⟨(Nat.le_of_ble_eq_true rfl), (Nat.le_of_ble_eq_true rfl)⟩ (fun H locs hP hS => ?_)
                  refine lv_icmp_lt (tgt := 183) hx hb dX7_workBy_165 (by decide) (fun c53 => ?_) (fun c53 => ?_)
                  · replace h := ifp c53 h
                    refine lv_iconst (v := 1) hx hb dX7_workBy_183 (by decide) ?_
                    refine lv_goto (tgt := 189) hx hb dX7_workBy_184 (by decide) ?_
                    cases h
                    exact K48 _ _ _ hP hS (lv_sub hl [] rfl)
                  · replace h := ifn c53 h
                    refine lv_iload_n hx hb dX7_workBy_168 rfl (lv_at hl 4 rfl) ?_
                    refine lv_aload_n hx hb dX7_workBy_169 rfl (lv_at hl 1 rfl) ?_
                    replace h := bd h
                    obtain ⟨_, q54, h⟩ := h
                    replace h := bd h
                    obtain ⟨x56, q55, h⟩ := h
                    refine c_X7_least ⟨hx, hb, hml, hown, hts⟩ hl.1 hK hP hS wd_1008 ⟨(Nat.le_of_ble_eq_true rfl), (Nat.le_of_ble_eq_true rfl)⟩ q55 q54 (Nat.le_of_ble_eq_true rfl) dX7_workBy_170 ⟨(Nat.le_of_ble_eq_true rfl), (Nat.le_of_ble_eq_true rfl)⟩ (fun H locs hP hS => ?_)
                    refine lv_iconst (v := 1) hx hb dX7_workBy_173 (by decide) ?_
                    refine lv_aload_n hx hb dX7_workBy_174 rfl (lv_at hl 1 rfl) ?_
                    replace h := bd h
                    obtain ⟨_, q57, h⟩ := h
                    replace h := bd h
                    obtain ⟨x59, q58, h⟩ := h
                    refine c_X7_frameBits ⟨hx, hb, hml, hown, hts⟩ hl.1 hK hP hS wd_1004 ⟨(Nat.le_of_ble_eq_true rfl), (Nat.le_of_ble_eq_true rfl)⟩ q58 q57 (Nat.le_of_ble_eq_true rfl) dX7_workBy_175 ⟨(Nat.le_of_ble_eq_true rfl), (Nat.le_of_ble_eq_true rfl)⟩ (fun H locs hP hS => ?_)
                    refine lv_ishl hx hb dX7_workBy_178 ?_
                    refine lv_iadd hx hb dX7_workBy_179 ?_
                    refine lv_icmp_lt (tgt := 187) hx hb dX7_workBy_180 (by decide) (fun c60 => ?_) (fun c60 => ?_)
                    · replace h := ifp c60 h
                      refine lv_iload hx hb dX7_workBy_187 (lv_at hl 0 rfl) ?_
                      cases h
                      exact K48 _ _ _ hP hS (lv_sub hl [] rfl)
                    · replace h := ifn c60 h
                      refine lv_iconst (v := 1) hx hb dX7_workBy_183 (by decide) ?_
                      refine lv_goto (tgt := 189) hx hb dX7_workBy_184 (by decide) ?_
                      cases h
                      exact K48 _ _ _ hP hS (lv_sub hl [] rfl)
              · replace h := ifn c18 h
                refine lv_tableOut (tgt := 190) hx hb dX7_workBy_46 (tsw_out (x := a1) 1 5 (fun k hk => by match k, hk with | 0, _ => exact c14 | 1, _ => exact c15 | 2, _ => exact c16 | 3, _ => exact c17 | 4, _ => exact c18) (by decide)) (by decide) ?_
                exact K19 h
    replace h := ht
    refine lv_icmp_ne (tgt := 39) hx hb dX7_workBy_31 (by decide) (fun c11 => ?_) (fun c11 => ?_)
    · replace h := ifn c11 h
      refine lv_aload_n hx hb dX7_workBy_39 rfl (lv_at hl 1 rfl) ?_
      replace h := bd h
      obtain ⟨x12, q13, h⟩ := h
      refine fg_6_7 hx hb hts hown hK hP wd_894 q13 dX7_workBy_40 ?_
      cases h
      exact K10 _ _ _ hP hS (lv_sub hl [1, 2, 3, 4, 5] rfl)
    · replace h := ifp c11 h
      refine lv_iload hx hb dX7_workBy_34 (lv_at hl 0 rfl) ?_
      refine lv_goto (tgt := 43) hx hb dX7_workBy_36 (by decide) ?_
      cases h
      exact K10 _ _ _ hP hS (lv_sub hl [1, 2, 3, 4, 5] rfl)
  replace h := ht
  refine lv_icmp_ge (tgt := 23) hx hb dX7_workBy_13 (by decide) (fun c7 => ?_) (fun c7 => ?_)
  · replace h := ifp c7 h
    refine lv_aload_n hx hb dX7_workBy_23 rfl (lv_at hl 1 rfl) ?_
    replace h := bd h
    obtain ⟨x8, q9, h⟩ := h
    refine fg_6_7 hx hb hts hown hK hP wd_894 q9 dX7_workBy_24 ?_
    cases h
    exact K6 _ _ _ hP hS (lv_sub hl [1, 2, 3, 4, 0] rfl)
  · replace h := ifn c7 h
    refine lv_iload hx hb dX7_workBy_16 (lv_at hl 0 rfl) ?_
    refine lv_iconst (v := 1) hx hb dX7_workBy_18 (by decide) ?_
    refine lv_iadd hx hb dX7_workBy_19 ?_
    refine lv_goto (tgt := 27) hx hb dX7_workBy_20 (by decide) ?_
    cases h
    exact K6 _ _ _ hP hS (lv_sub hl [1, 2, 3, 4, 0] rfl)
set_option maxRecDepth 100000 in
theorem c_X7_workBy {p : Program} {l : Launch} {e : Env} {R : Room} {s : State} {m : MethodId} {args : Array Value} {below : List Frame} {meth : Method} {c : Code} {H : Heap} {locs : List Loc} {cells slots : Nat} {Q : State → Prop} {cc : ByteArray} {pc index nL : Nat} {ls : Array Slot} {rest : List Value} {D : va_G} {cy : Nat → ClassId} {A0 : Nat → Prop} {S : St} {H0 : Heap} {own : String} {u : Unit} {a0 : Nat} {a1 : Int32} {a2 : Int32} {a3 : Int32} {r : Int32}  (hF : CallFix p m c cc nL s args ALLW own) (hsz : ls.size = nL) (hK : va_K D vwCl (tyL cy) s) (hP : SP D cy S H) (hS : va_S A0 H0 H locs) (hk : Cond.methodLink own index yX7_workBy ∈ ALLW) (hR : rm_X7_workBy.frames + 1 ≤ R.frames ∧ 8 + (7 + 11) + rm_X7_workBy.locals ≤ R.locals) (h : f_X7_workBy S a0 a1 a2 a3 = some r) (hc : oO S a0 6 = some u) (hW : (rest.map fun v => v.category).sum ≤ 8) (hdg : decode cc pc = .ok (.invokevirtual index, 3)) (hf : cells + 0 ≤ R.cells ∧ slots + 0 ≤ R.slots)
    (kk : ∀ (H1 : Heap) (locs1 : List Loc), SP D cy S H1 → va_S A0 H0 H1 locs1 → W p l e R s m args below meth c H1 locs1 (cells + 0) (slots + 0) Q (F0 m (pc + 3) ls (.int r :: rest))) : W p l e R s m args below meth c H locs cells slots Q (F0 m pc ls (.int a3 :: .int a2 :: .int a1 :: .ref a0 :: rest)) := by
  exact k_iVp (As := [.int a1, .int a2, .int a3]) hF hsz (m_X7_workBy l D cy S a0 a1 a2 a3 r h) (cwV_of (n := 3) hF.2.2.2.2 hk wd_1117 wd_51 wd_75 wd_1118 rfl rfl (by decide +kernel) hR) rfl hK hP hS (ci := 6) hc rfl hW rfl hdg hf kk
/-- VowBlocksModel.answer(II)I -/
def f_X7_answer_L42 (S42_ : St) (y42_0 : Nat) : Nat → Int32 → Int32 →  Option (Int32)
  | 0, _, _ => none
  | fu + 1, y42_3, y42_4 =>
    (gI S42_ y42_0 6 7).bind fun x5 =>
    if x5 ≤ y42_4 then
      some y42_3
    else
      (gR S42_ y42_0 6 6).bind fun x8 =>
      (aI S42_ x8 y42_4).bind fun x10 =>
      f_X7_answer_L42 S42_ y42_0 fu (y42_3 + x10) (y42_4 + 1)
def f_X7_answer (S : St) (a0 : Nat) (a1 : Int32) (a2 : Int32) : Option (Int32) :=
  if a1 = 0 then
    (oO S a0 6).bind fun _ =>
    (f_X7_timesOf S a0 a2).bind fun x25 =>
    some x25
  else
    if a1 = 2 then
      (oO S a0 6).bind fun _ =>
      (f_X7_firstOf S a0 a2).bind fun x15 =>
      (gI S a0 6 7).bind fun x16 =>
      (
        if x16 ≤ x15 then
          some (-1)
        else
          (oO S a0 6).bind fun _ =>
          (f_X7_firstOf S a0 a2).bind fun x22 =>
          some x22
      : Option (Int32)).bind fun t18 =>
      some t18
    else
      (f_X7_answer_L42 S a0 FU 0 0).bind fun z3 =>
      some z3
abbrev rm_X7_answer : Room := { frames := 1, cells := 0, slots := 0, locals := 23 }
set_option maxHeartbeats 4000000 in
set_option maxRecDepth 100000 in
theorem m_X7_answer (l : Launch) (D : va_G) (cy : Nat → ClassId) (S : St) (a0 : Nat) (a1 : Int32) (a2 : Int32) (r : Int32) (h : f_X7_answer S a0 a1 a2 = some r) : Met l yX7_answer (wsA yX7_answer cX7_answer 5 (some .int)) rm_X7_answer (va_Pc [.ref a0, .int a1, .int a2] (PS D cy S)) (va_Qi (fun r' (_ : Unit) => r' = r) (fun _ _ => True) noA) 0 0 noA := by
  refine Met.ofW (cc := cX7_answer) (maxL := 5) (ret := (some .int)) (by decide) rfl ?_
  intro p e s m args below meth c s₁ B hml hv
  obtain ⟨rfl, hP, hK⟩ := hv
  have hx := B.exec
  have hb := B.bytes
  have hr := B.returns
  have hts9 := atoms_spec (ws := wsA yX7_answer cX7_answer 5 (some .int)) B.pre
  have hts : ∀ w ∈ ALLW, w.before _ s = true := fun w h => hts9 w (List.mem_cons_of_mem _ h)
  have hown : s.vm.findClass RX7 = some m.cls := findClass_of_methodNamed B.named
  have hlocks := B.notSynchronized
  have hS : va_S noA s.heap s.heap [] := va_S.rf
  have hl := lv_entry [.ref a0, .int a1, .int a2] (n := 5) (Nat.le_of_ble_eq_true rfl)
  rw [lg_entry_eq]
  generalize (lg_sl [.ref a0, .int a1, .int a2] ++ List.replicate (5 - (lg_sl [.ref a0, .int a1, .int a2]).length) Slot.unset).toArray = ls at hl ⊢
  have hl : lv_has ls 5 [(0, .ref a0), (1, .int a1), (2, .int a2)] := hl
  rw [f_X7_answer] at h
  refine lv_iload_n hx hb dX7_answer_0 rfl (lv_at hl 1 rfl) ?_
  refine lv_if_ne (tgt := 10) hx hb dX7_answer_1 (by decide) (fun c1 => ?_) (fun c1 => ?_)
  · replace h := ifn c1 h
    refine lv_iload_n hx hb dX7_answer_10 rfl (lv_at hl 1 rfl) ?_
    refine lv_iconst (v := 2) hx hb dX7_answer_11 (by decide) ?_
    refine lv_icmp_ne (tgt := 37) hx hb dX7_answer_12 (by decide) (fun c2 => ?_) (fun c2 => ?_)
    · replace h := ifn c2 h
      refine lv_iconst (v := 0) hx hb dX7_answer_37 (by decide) ?_
      refine lv_istore_n (lv' := [(3, .int 0), (0, .ref a0), (1, .int a1), (2, .int a2)]) hx hb dX7_answer_38 rfl hl (by decide) rfl (fun ls hl => ?_)
      refine lv_iconst (v := 0) hx hb dX7_answer_39 (by decide) ?_
      refine lv_istore (lv' := [(4, .int 0), (3, .int 0), (0, .ref a0), (1, .int a1), (2, .int a2)]) hx hb dX7_answer_40 hl (by decide) rfl (fun ls hl => ?_)
      have L42 : ∀ (S42_ : St) (y42_0 : Nat) (fu : Nat) (y42_3 : Int32) (y42_4 : Int32) (res : Int32), f_X7_answer_L42 S42_ y42_0 fu y42_3 y42_4 = some res → ∀ (H : Heap) (locs : List Loc) (ls : Array Slot), SP D cy S42_ H → va_S noA s.heap H locs → lv_has ls 5 [(0, .ref y42_0), (3, .int y42_3), (4, .int y42_4)] → (∀ (H : Heap) (locs : List Loc) (ls : Array Slot), SP D cy S42_ H → va_S noA s.heap H locs → lv_has ls 5 [(3, .int res)] → W p l e rm_X7_answer s m ([.ref a0, .int a1, .int a2] : List Value).toArray below meth c H locs 0 0 (MQ below (va_Qi (fun r' (_ : Unit) => r' = r) (fun _ _ => True) noA) ([.ref a0, .int a1, .int a2] : List Value).toArray s 0 0 noA) (F0 m 67 ls [])) → W p l e rm_X7_answer s m ([.ref a0, .int a1, .int a2] : List Value).toArray below meth c H locs 0 0 (MQ below (va_Qi (fun r' (_ : Unit) => r' = r) (fun _ _ => True) noA) ([.ref a0, .int a1, .int a2] : List Value).toArray s 0 0 noA) (F0 m 42 ls []) := by
        intro S42_ y42_0 fu
        induction fu with
        | zero =>
          intro y42_3 y42_4 res h
          rw [f_X7_answer_L42] at h
          cases h
        | succ fu ih =>
          intro y42_3 y42_4 res h H locs ls hP hS hl hexit
          rw [f_X7_answer_L42] at h
          refine lv_iload hx hb dX7_answer_42 (lv_at hl 2 rfl) ?_
          refine lv_aload_n hx hb dX7_answer_44 rfl (lv_at hl 0 rfl) ?_
          replace h := bd h
          obtain ⟨x5, q6, h⟩ := h
          refine fg_6_7 hx hb hts hown hK hP wd_894 q6 dX7_answer_45 ?_
          refine lv_icmp_ge (tgt := 67) hx hb dX7_answer_48 (by decide) (fun c7 => ?_) (fun c7 => ?_)
          · replace h := ifp c7 h
            cases h
            exact hexit _ _ _ hP hS (lv_sub hl [1] rfl)
          · replace h := ifn c7 h
            refine lv_iload_n hx hb dX7_answer_51 rfl (lv_at hl 1 rfl) ?_
            refine lv_aload_n hx hb dX7_answer_52 rfl (lv_at hl 0 rfl) ?_
            replace h := bd h
            obtain ⟨x8, q9, h⟩ := h
            refine fg_6_6 hx hb hts hown hK hP wd_893 q9 dX7_answer_53 ?_
            refine lv_iload hx hb dX7_answer_56 (lv_at hl 2 rfl) ?_
            replace h := bd h
            obtain ⟨x10, q11, h⟩ := h
            refine r_aI hx hb hK hP q11 dX7_answer_58 ?_
            refine lv_iadd hx hb dX7_answer_59 ?_
            refine lv_istore_n (lv' := [(3, .int (y42_3 + x10)), (0, .ref y42_0), (4, .int y42_4)]) hx hb dX7_answer_60 rfl hl (by decide) rfl (fun ls hl => ?_)
            refine lv_iinc (v := (y42_4 + 1)) (lv' := [(4, .int (y42_4 + 1)), (3, .int (y42_3 + x10)), (0, .ref y42_0)]) hx hb dX7_answer_61 hl (k := 2) rfl rfl (by decide) rfl (fun ls hl => ?_)
            refine lv_goto (tgt := 42) hx hb dX7_answer_64 (by decide) ?_
            exact ih (y42_3 + x10) (y42_4 + 1) _ h _ _ _ hP hS (lv_sub hl [2, 1, 0] rfl) hexit
      replace h := bd h
      obtain ⟨z3, q12, h⟩ := h
      refine L42 S a0 FU 0 0 z3 q12 _ _ _ hP hS (lv_sub hl [2, 1, 0] rfl) (fun H locs ls hP hS hl => ?_)
      refine lv_iload_n hx hb dX7_answer_67 rfl (lv_at hl 0 rfl) ?_
      cases h
      exact e_ip hx hb hlocks hr hS (Nat.le_of_ble_eq_true rfl) (Nat.le_of_ble_eq_true rfl) dX7_answer_68
    · replace h := ifp c2 h
      refine lv_aload_n hx hb dX7_answer_15 rfl (lv_at hl 0 rfl) ?_
      refine lv_iload_n hx hb dX7_answer_16 rfl (lv_at hl 2 rfl) ?_
      replace h := bd h
      obtain ⟨_, q13, h⟩ := h
      replace h := bd h
      obtain ⟨x15, q14, h⟩ := h
      refine c_X7_firstOf ⟨hx, hb, hml, hown, hts⟩ hl.1 hK hP hS wd_981 ⟨(Nat.le_of_ble_eq_true rfl), (Nat.le_of_ble_eq_true rfl)⟩ q14 q13 (Nat.le_of_ble_eq_true rfl) dX7_answer_17 ⟨(Nat.le_of_ble_eq_true rfl), (Nat.le_of_ble_eq_true rfl)⟩ (fun H locs hP hS => ?_)
      refine lv_aload_n hx hb dX7_answer_20 rfl (lv_at hl 0 rfl) ?_
      replace h := bd h
      obtain ⟨x16, q17, h⟩ := h
      refine fg_6_7 hx hb hts hown hK hP wd_894 q17 dX7_answer_21 ?_
      replace h := bd h
      obtain ⟨t18, ht, h⟩ := h
      have K18 : ∀ (H : Heap) (locs : List Loc) (ls : Array Slot), SP D cy S H → va_S noA s.heap H locs → lv_has ls 5 [] → W p l e rm_X7_answer s m ([.ref a0, .int a1, .int a2] : List Value).toArray below meth c H locs 0 0 (MQ below (va_Qi (fun r' (_ : Unit) => r' = r) (fun _ _ => True) noA) ([.ref a0, .int a1, .int a2] : List Value).toArray s 0 0 noA) (F0 m 36 ls [.int t18]) := by
        intro H locs ls hP hS hl
        cases h
        exact e_ip hx hb hlocks hr hS (Nat.le_of_ble_eq_true rfl) (Nat.le_of_ble_eq_true rfl) dX7_answer_36
      replace h := ht
      refine lv_icmp_ge (tgt := 35) hx hb dX7_answer_24 (by decide) (fun c19 => ?_) (fun c19 => ?_)
      · replace h := ifp c19 h
        refine lv_iconst (v := (-1)) hx hb dX7_answer_35 (by decide) ?_
        cases h
        exact K18 _ _ _ hP hS (lv_sub hl [] rfl)
      · replace h := ifn c19 h
        refine lv_aload_n hx hb dX7_answer_27 rfl (lv_at hl 0 rfl) ?_
        refine lv_iload_n hx hb dX7_answer_28 rfl (lv_at hl 2 rfl) ?_
        replace h := bd h
        obtain ⟨_, q20, h⟩ := h
        replace h := bd h
        obtain ⟨x22, q21, h⟩ := h
        refine c_X7_firstOf ⟨hx, hb, hml, hown, hts⟩ hl.1 hK hP hS wd_981 ⟨(Nat.le_of_ble_eq_true rfl), (Nat.le_of_ble_eq_true rfl)⟩ q21 q20 (Nat.le_of_ble_eq_true rfl) dX7_answer_29 ⟨(Nat.le_of_ble_eq_true rfl), (Nat.le_of_ble_eq_true rfl)⟩ (fun H locs hP hS => ?_)
        refine lv_goto (tgt := 36) hx hb dX7_answer_32 (by decide) ?_
        cases h
        exact K18 _ _ _ hP hS (lv_sub hl [] rfl)
  · replace h := ifp c1 h
    refine lv_aload_n hx hb dX7_answer_4 rfl (lv_at hl 0 rfl) ?_
    refine lv_iload_n hx hb dX7_answer_5 rfl (lv_at hl 2 rfl) ?_
    replace h := bd h
    obtain ⟨_, q23, h⟩ := h
    replace h := bd h
    obtain ⟨x25, q24, h⟩ := h
    refine c_X7_timesOf ⟨hx, hb, hml, hown, hts⟩ hl.1 hK hP hS wd_1000 ⟨(Nat.le_of_ble_eq_true rfl), (Nat.le_of_ble_eq_true rfl)⟩ q24 q23 (Nat.le_of_ble_eq_true rfl) dX7_answer_6 ⟨(Nat.le_of_ble_eq_true rfl), (Nat.le_of_ble_eq_true rfl)⟩ (fun H locs hP hS => ?_)
    cases h
    exact e_ip hx hb hlocks hr hS (Nat.le_of_ble_eq_true rfl) (Nat.le_of_ble_eq_true rfl) dX7_answer_9
set_option maxRecDepth 100000 in
theorem c_X7_answer {p : Program} {l : Launch} {e : Env} {R : Room} {s : State} {m : MethodId} {args : Array Value} {below : List Frame} {meth : Method} {c : Code} {H : Heap} {locs : List Loc} {cells slots : Nat} {Q : State → Prop} {cc : ByteArray} {pc index nL : Nat} {ls : Array Slot} {rest : List Value} {D : va_G} {cy : Nat → ClassId} {A0 : Nat → Prop} {S : St} {H0 : Heap} {own : String} {u : Unit} {a0 : Nat} {a1 : Int32} {a2 : Int32} {r : Int32}  (hF : CallFix p m c cc nL s args ALLW own) (hsz : ls.size = nL) (hK : va_K D vwCl (tyL cy) s) (hP : SP D cy S H) (hS : va_S A0 H0 H locs) (hk : Cond.methodLink own index yX7_answer ∈ ALLW) (hR : rm_X7_answer.frames + 1 ≤ R.frames ∧ 8 + (5 + 11) + rm_X7_answer.locals ≤ R.locals) (h : f_X7_answer S a0 a1 a2 = some r) (hc : oO S a0 6 = some u) (hW : (rest.map fun v => v.category).sum ≤ 8) (hdg : decode cc pc = .ok (.invokevirtual index, 3)) (hf : cells + 0 ≤ R.cells ∧ slots + 0 ≤ R.slots)
    (kk : ∀ (H1 : Heap) (locs1 : List Loc), SP D cy S H1 → va_S A0 H0 H1 locs1 → W p l e R s m args below meth c H1 locs1 (cells + 0) (slots + 0) Q (F0 m (pc + 3) ls (.int r :: rest))) : W p l e R s m args below meth c H locs cells slots Q (F0 m pc ls (.int a2 :: .int a1 :: .ref a0 :: rest)) := by
  exact k_iVp (As := [.int a1, .int a2]) hF hsz (m_X7_answer l D cy S a0 a1 a2 r h) (cwV_of (n := 2) hF.2.2.2.2 hk wd_1121 wd_52 wd_75 wd_1122 rfl rfl (by decide +kernel) hR) rfl hK hP hS (ci := 6) hc rfl hW rfl hdg hf kk
/-- VowBlocksModel.ask(III)I -/
def f_X7_ask (S : St) (a0 : Nat) (a1 : Int32) (a2 : Int32) (a3 : Int32) : Option (Int32 × St) :=
  (oO S a0 6).bind fun _ =>
  (f_X7_isBlock S a0 a1).bind fun x3 =>
  (
    if x3 = 0 then
      some 1
    else
      (f_X7_isQuestion a2).bind fun x7 =>
      if x7 = 0 then
        some 2
      else
        (f_X7_isValue a3).bind fun x10 =>
        if x10 = 0 then
          some 2
        else
          some 0
  : Option (Int32)).bind fun t4 =>
  (pI S a0 6 5 t4).bind fun Z12 =>
  (gI Z12 a0 6 5).bind fun x14 =>
  if x14 ≤ 0 then
    (oO Z12 a0 6).bind fun _ =>
    (f_X7_save Z12 a0).bind fun z19 =>
    (oO z19 a0 6).bind fun _ =>
    (f_X7_lay z19 a0 a1).bind fun z22 =>
    (oO z22 a0 6).bind fun _ =>
    (f_X7_of z22 a0 a1 4).bind fun x25 =>
    (oO z22 a0 6).bind fun _ =>
    (f_X7_of z22 a0 a1 1).bind fun x28 =>
    (oO z22 a0 6).bind fun _ =>
    (f_X7_workBy z22 a0 x28 a2 a3).bind fun x31 =>
    (oO z22 a0 6).bind fun _ =>
    (f_X7_setOf z22 a0 a1 4 (x25 + x31)).bind fun z34 =>
    (oO z34 a0 6).bind fun _ =>
    (f_X7_of z34 a0 a1 5).bind fun x37 =>
    (oO z34 a0 6).bind fun _ =>
    (f_X7_setOf z34 a0 a1 5 (x37 + 1)).bind fun z40 =>
    (oO z40 a0 6).bind fun _ =>
    (f_X7_answer z40 a0 a2 a3).bind fun x43 =>
    some (x43, z40)
  else
    some (0, Z12)
abbrev rm_X7_ask : Room := { frames := 4, cells := 0, slots := 0, locals := 92 }
set_option maxHeartbeats 4000000 in
set_option maxRecDepth 100000 in
theorem m_X7_ask (l : Launch) (D : va_G) (cy : Nat → ClassId) (sz : Nat) (S : St) (a0 : Nat) (a1 : Int32) (a2 : Int32) (a3 : Int32) (r : Int32) (S1 : St) (h : f_X7_ask S a0 a1 a2 a3 = some (r, S1)) : Met l yX7_ask (wsA yX7_ask cX7_ask 4 (some .int)) rm_X7_ask (va_Pc [.ref a0, .int a1, .int a2, .int a3] (PN D cy S sz)) (va_Qi (fun r' (_ : Unit) => r' = r) (fun _ t => PoS D cy S1 (dm S sz) t) (dm S sz)) 0 0 (dm S sz) := by
  refine Met.ofW (cc := cX7_ask) (maxL := 4) (ret := (some .int)) (by decide) rfl ?_
  intro p e s m args below meth c s₁ B hml hv
  obtain ⟨rfl, hsz, hP, hK⟩ := hv
  have hx := B.exec
  have hb := B.bytes
  have hr := B.returns
  have hts9 := atoms_spec (ws := wsA yX7_ask cX7_ask 4 (some .int)) B.pre
  have hts : ∀ w ∈ ALLW, w.before _ s = true := fun w h => hts9 w (List.mem_cons_of_mem _ h)
  have hown : s.vm.findClass RX7 = some m.cls := findClass_of_methodNamed B.named
  have hlocks := B.notSynchronized
  subst hsz
  have hD : ∀ a, S a ≠ none → dm S s.heap.size a := fun a h => Or.inl h
  have hA : ∀ q : Nat, s.heap.size ≤ q → dm S s.heap.size q := fun q h => Or.inr h
  have hS : va_S (dm S s.heap.size) s.heap s.heap [] := va_S.rf
  have hl := lv_entry [.ref a0, .int a1, .int a2, .int a3] (n := 4) (Nat.le_of_ble_eq_true rfl)
  rw [lg_entry_eq]
  generalize (lg_sl [.ref a0, .int a1, .int a2, .int a3] ++ List.replicate (4 - (lg_sl [.ref a0, .int a1, .int a2, .int a3]).length) Slot.unset).toArray = ls at hl ⊢
  have hl : lv_has ls 4 [(0, .ref a0), (1, .int a1), (2, .int a2), (3, .int a3)] := hl
  rw [f_X7_ask] at h
  refine lv_aload_n hx hb dX7_ask_0 rfl (lv_at hl 0 rfl) ?_
  refine lv_aload_n hx hb dX7_ask_1 rfl (lv_at hl 0 rfl) ?_
  refine lv_iload_n hx hb dX7_ask_2 rfl (lv_at hl 1 rfl) ?_
  replace h := bd h
  obtain ⟨_, q1, h⟩ := h
  replace h := bd h
  obtain ⟨x3, q2, h⟩ := h
  refine c_X7_isBlock ⟨hx, hb, hml, hown, hts⟩ hl.1 hK hP hS wd_1044 ⟨(Nat.le_of_ble_eq_true rfl), (Nat.le_of_ble_eq_true rfl)⟩ q2 q1 (Nat.le_of_ble_eq_true rfl) dX7_ask_3 ⟨(Nat.le_of_ble_eq_true rfl), (Nat.le_of_ble_eq_true rfl)⟩ (fun H locs hP hS => ?_)
  replace h := bd h
  obtain ⟨t4, ht, h⟩ := h
  have K4 : ∀ (H : Heap) (locs : List Loc) (ls : Array Slot), SP D cy S H → (∀ a, S a ≠ none → (dm S s.heap.size) a) → va_S (dm S s.heap.size) s.heap H locs → lv_has ls 4 [(0, .ref a0), (1, .int a1), (2, .int a2), (3, .int a3)] → W p l e rm_X7_ask s m ([.ref a0, .int a1, .int a2, .int a3] : List Value).toArray below meth c H locs 0 0 (MQ below (va_Qi (fun r' (_ : Unit) => r' = r) (fun _ t => PoS D cy S1 (dm S s.heap.size) t) (dm S s.heap.size)) ([.ref a0, .int a1, .int a2, .int a3] : List Value).toArray s 0 0 (dm S s.heap.size)) (F0 m 32 ls [.int t4, .ref a0]) := by
    intro H locs ls hP hD hS hl
    replace h := bd h
    obtain ⟨Z12, q13, h⟩ := h
    refine fp_6_5 hx hb hts hown hK hP hD hS wd_892 q13 dX7_ask_32 (fun H locs hz9 hP hD hS => ?_)
    refine lv_aload_n hx hb dX7_ask_35 rfl (lv_at hl 0 rfl) ?_
    replace h := bd h
    obtain ⟨x14, q15, h⟩ := h
    refine fg_6_5 hx hb hts hown hK hP wd_892 q15 dX7_ask_36 ?_
    refine lv_if_le (tgt := 44) hx hb dX7_ask_39 (by decide) (fun c16 => ?_) (fun c16 => ?_)
    · replace h := ifp c16 h
      refine lv_aload_n hx hb dX7_ask_44 rfl (lv_at hl 0 rfl) ?_
      replace h := bd h
      obtain ⟨_, q17, h⟩ := h
      replace h := bd h
      obtain ⟨z19, q18, h⟩ := h
      refine c_X7_save ⟨hx, hb, hml, hown, hts⟩ hl.1 hK hP hD hA hS wd_941 ⟨(Nat.le_of_ble_eq_true rfl), (Nat.le_of_ble_eq_true rfl)⟩ q18 q17 (Nat.le_of_ble_eq_true rfl) dX7_ask_45 ⟨(Nat.le_of_ble_eq_true rfl), (Nat.le_of_ble_eq_true rfl)⟩ (fun H locs hP hD hS => ?_)
      refine lv_aload_n hx hb dX7_ask_48 rfl (lv_at hl 0 rfl) ?_
      refine lv_iload_n hx hb dX7_ask_49 rfl (lv_at hl 1 rfl) ?_
      replace h := bd h
      obtain ⟨_, q20, h⟩ := h
      replace h := bd h
      obtain ⟨z22, q21, h⟩ := h
      refine c_X7_lay ⟨hx, hb, hml, hown, hts⟩ hl.1 hK hP hD hA hS wd_957 ⟨(Nat.le_of_ble_eq_true rfl), (Nat.le_of_ble_eq_true rfl)⟩ q21 q20 (Nat.le_of_ble_eq_true rfl) dX7_ask_50 ⟨(Nat.le_of_ble_eq_true rfl), (Nat.le_of_ble_eq_true rfl)⟩ (fun H locs hP hD hS => ?_)
      refine lv_aload_n hx hb dX7_ask_53 rfl (lv_at hl 0 rfl) ?_
      refine lv_iload_n hx hb dX7_ask_54 rfl (lv_at hl 1 rfl) ?_
      refine lv_iconst (v := 4) hx hb dX7_ask_55 (by decide) ?_
      refine lv_aload_n hx hb dX7_ask_56 rfl (lv_at hl 0 rfl) ?_
      refine lv_iload_n hx hb dX7_ask_57 rfl (lv_at hl 1 rfl) ?_
      refine lv_iconst (v := 4) hx hb dX7_ask_58 (by decide) ?_
      replace h := bd h
      obtain ⟨_, q23, h⟩ := h
      replace h := bd h
      obtain ⟨x25, q24, h⟩ := h
      refine c_X7_of ⟨hx, hb, hml, hown, hts⟩ hl.1 hK hP hS wd_961 ⟨(Nat.le_of_ble_eq_true rfl), (Nat.le_of_ble_eq_true rfl)⟩ q24 q23 (Nat.le_of_ble_eq_true rfl) dX7_ask_59 ⟨(Nat.le_of_ble_eq_true rfl), (Nat.le_of_ble_eq_true rfl)⟩ (fun H locs hP hS => ?_)
      refine lv_aload_n hx hb dX7_ask_62 rfl (lv_at hl 0 rfl) ?_
      refine lv_aload_n hx hb dX7_ask_63 rfl (lv_at hl 0 rfl) ?_
      refine lv_iload_n hx hb dX7_ask_64 rfl (lv_at hl 1 rfl) ?_
      refine lv_iconst (v := 1) hx hb dX7_ask_65 (by decide) ?_
      replace h := bd h
      obtain ⟨_, q26, h⟩ := h
      replace h := bd h
      obtain ⟨x28, q27, h⟩ := h
      refine c_X7_of ⟨hx, hb, hml, hown, hts⟩ hl.1 hK hP hS wd_961 ⟨(Nat.le_of_ble_eq_true rfl), (Nat.le_of_ble_eq_true rfl)⟩ q27 q26 (Nat.le_of_ble_eq_true rfl) dX7_ask_66 ⟨(Nat.le_of_ble_eq_true rfl), (Nat.le_of_ble_eq_true rfl)⟩ (fun H locs hP hS => ?_)
      refine lv_iload_n hx hb dX7_ask_69 rfl (lv_at hl 2 rfl) ?_
      refine lv_iload_n hx hb dX7_ask_70 rfl (lv_at hl 3 rfl) ?_
      replace h := bd h
      obtain ⟨_, q29, h⟩ := h
      replace h := bd h
      obtain ⟨x31, q30, h⟩ := h
      refine c_X7_workBy ⟨hx, hb, hml, hown, hts⟩ hl.1 hK hP hS wd_1115 ⟨(Nat.le_of_ble_eq_true rfl), (Nat.le_of_ble_eq_true rfl)⟩ q30 q29 (Nat.le_of_ble_eq_true rfl) dX7_ask_71 ⟨(Nat.le_of_ble_eq_true rfl), (Nat.le_of_ble_eq_true rfl)⟩ (fun H locs hP hS => ?_)
      refine lv_iadd hx hb dX7_ask_74 ?_
      replace h := bd h
      obtain ⟨_, q32, h⟩ := h
      replace h := bd h
      obtain ⟨z34, q33, h⟩ := h
      refine c_X7_setOf ⟨hx, hb, hml, hown, hts⟩ hl.1 hK hP hD hA hS wd_949 ⟨(Nat.le_of_ble_eq_true rfl), (Nat.le_of_ble_eq_true rfl)⟩ q33 q32 (Nat.le_of_ble_eq_true rfl) dX7_ask_75 ⟨(Nat.le_of_ble_eq_true rfl), (Nat.le_of_ble_eq_true rfl)⟩ (fun H locs hP hD hS => ?_)
      refine lv_aload_n hx hb dX7_ask_78 rfl (lv_at hl 0 rfl) ?_
      refine lv_iload_n hx hb dX7_ask_79 rfl (lv_at hl 1 rfl) ?_
      refine lv_iconst (v := 5) hx hb dX7_ask_80 (by decide) ?_
      refine lv_aload_n hx hb dX7_ask_81 rfl (lv_at hl 0 rfl) ?_
      refine lv_iload_n hx hb dX7_ask_82 rfl (lv_at hl 1 rfl) ?_
      refine lv_iconst (v := 5) hx hb dX7_ask_83 (by decide) ?_
      replace h := bd h
      obtain ⟨_, q35, h⟩ := h
      replace h := bd h
      obtain ⟨x37, q36, h⟩ := h
      refine c_X7_of ⟨hx, hb, hml, hown, hts⟩ hl.1 hK hP hS wd_961 ⟨(Nat.le_of_ble_eq_true rfl), (Nat.le_of_ble_eq_true rfl)⟩ q36 q35 (Nat.le_of_ble_eq_true rfl) dX7_ask_84 ⟨(Nat.le_of_ble_eq_true rfl), (Nat.le_of_ble_eq_true rfl)⟩ (fun H locs hP hS => ?_)
      refine lv_iconst (v := 1) hx hb dX7_ask_87 (by decide) ?_
      refine lv_iadd hx hb dX7_ask_88 ?_
      replace h := bd h
      obtain ⟨_, q38, h⟩ := h
      replace h := bd h
      obtain ⟨z40, q39, h⟩ := h
      refine c_X7_setOf ⟨hx, hb, hml, hown, hts⟩ hl.1 hK hP hD hA hS wd_949 ⟨(Nat.le_of_ble_eq_true rfl), (Nat.le_of_ble_eq_true rfl)⟩ q39 q38 (Nat.le_of_ble_eq_true rfl) dX7_ask_89 ⟨(Nat.le_of_ble_eq_true rfl), (Nat.le_of_ble_eq_true rfl)⟩ (fun H locs hP hD hS => ?_)
      refine lv_aload_n hx hb dX7_ask_92 rfl (lv_at hl 0 rfl) ?_
      refine lv_iload_n hx hb dX7_ask_93 rfl (lv_at hl 2 rfl) ?_
      refine lv_iload_n hx hb dX7_ask_94 rfl (lv_at hl 3 rfl) ?_
      replace h := bd h
      obtain ⟨_, q41, h⟩ := h
      replace h := bd h
      obtain ⟨x43, q42, h⟩ := h
      refine c_X7_answer ⟨hx, hb, hml, hown, hts⟩ hl.1 hK hP hS wd_1119 ⟨(Nat.le_of_ble_eq_true rfl), (Nat.le_of_ble_eq_true rfl)⟩ q42 q41 (Nat.le_of_ble_eq_true rfl) dX7_ask_95 ⟨(Nat.le_of_ble_eq_true rfl), (Nat.le_of_ble_eq_true rfl)⟩ (fun H locs hP hS => ?_)
      cases h
      exact e_im hx hb hlocks hr hP hD hS (Nat.le_of_ble_eq_true rfl) (Nat.le_of_ble_eq_true rfl) dX7_ask_98
    · replace h := ifn c16 h
      refine lv_iconst (v := 0) hx hb dX7_ask_42 (by decide) ?_
      cases h
      exact e_im hx hb hlocks hr hP hD hS (Nat.le_of_ble_eq_true rfl) (Nat.le_of_ble_eq_true rfl) dX7_ask_43
  replace h := ht
  refine lv_if_ne (tgt := 13) hx hb dX7_ask_6 (by decide) (fun c5 => ?_) (fun c5 => ?_)
  · replace h := ifn c5 h
    refine lv_iload_n hx hb dX7_ask_13 rfl (lv_at hl 2 rfl) ?_
    replace h := bd h
    obtain ⟨x7, q6, h⟩ := h
    refine c_X7_isQuestion ⟨hx, hb, hml, hown, hts⟩ hl.1 hK hP hS wd_1112 ⟨(Nat.le_of_ble_eq_true rfl), (Nat.le_of_ble_eq_true rfl)⟩ q6 (Nat.le_of_ble_eq_true rfl) dX7_ask_14 ⟨(Nat.le_of_ble_eq_true rfl), (Nat.le_of_ble_eq_true rfl)⟩ (fun H locs hP hS => ?_)
    refine lv_if_eq (tgt := 31) hx hb dX7_ask_17 (by decide) (fun c8 => ?_) (fun c8 => ?_)
    · replace h := ifp c8 h
      refine lv_iconst (v := 2) hx hb dX7_ask_31 (by decide) ?_
      cases h
      exact K4 _ _ _ hP hD hS (lv_sub hl [0, 1, 2, 3] rfl)
    · replace h := ifn c8 h
      refine lv_iload_n hx hb dX7_ask_20 rfl (lv_at hl 3 rfl) ?_
      replace h := bd h
      obtain ⟨x10, q9, h⟩ := h
      refine c_X7_isValue ⟨hx, hb, hml, hown, hts⟩ hl.1 hK hP hS wd_935 ⟨(Nat.le_of_ble_eq_true rfl), (Nat.le_of_ble_eq_true rfl)⟩ q9 (Nat.le_of_ble_eq_true rfl) dX7_ask_21 ⟨(Nat.le_of_ble_eq_true rfl), (Nat.le_of_ble_eq_true rfl)⟩ (fun H locs hP hS => ?_)
      refine lv_if_eq (tgt := 31) hx hb dX7_ask_24 (by decide) (fun c11 => ?_) (fun c11 => ?_)
      · replace h := ifp c11 h
        refine lv_iconst (v := 2) hx hb dX7_ask_31 (by decide) ?_
        cases h
        exact K4 _ _ _ hP hD hS (lv_sub hl [0, 1, 2, 3] rfl)
      · replace h := ifn c11 h
        refine lv_iconst (v := 0) hx hb dX7_ask_27 (by decide) ?_
        refine lv_goto (tgt := 32) hx hb dX7_ask_28 (by decide) ?_
        cases h
        exact K4 _ _ _ hP hD hS (lv_sub hl [0, 1, 2, 3] rfl)
  · replace h := ifp c5 h
    refine lv_iconst (v := 1) hx hb dX7_ask_9 (by decide) ?_
    refine lv_goto (tgt := 32) hx hb dX7_ask_10 (by decide) ?_
    cases h
    exact K4 _ _ _ hP hD hS (lv_sub hl [0, 1, 2, 3] rfl)
set_option maxRecDepth 100000 in
theorem c_X7_ask {p : Program} {l : Launch} {e : Env} {R : Room} {s : State} {m : MethodId} {args : Array Value} {below : List Frame} {meth : Method} {c : Code} {H : Heap} {locs : List Loc} {cells slots : Nat} {Q : State → Prop} {cc : ByteArray} {pc index nL : Nat} {ls : Array Slot} {rest : List Value} {D : va_G} {cy : Nat → ClassId} {A0 : Nat → Prop} {S : St} {H0 : Heap} {own : String} {u : Unit} {a0 : Nat} {a1 : Int32} {a2 : Int32} {a3 : Int32} {r : Int32} {S1 : St}  (hF : CallFix p m c cc nL s args ALLW own) (hsz : ls.size = nL) (hK : va_K D vwCl (tyL cy) s) (hP : SP D cy S H) (hD : ∀ a, S a ≠ none → A0 a) (hA : ∀ q, H0.size ≤ q → A0 q) (hS : va_S A0 H0 H locs) (hk : Cond.methodLink own index yX7_ask ∈ ALLW) (hR : rm_X7_ask.frames + 1 ≤ R.frames ∧ 8 + (4 + 11) + rm_X7_ask.locals ≤ R.locals) (h : f_X7_ask S a0 a1 a2 a3 = some (r, S1)) (hc : oO S a0 6 = some u) (hW : (rest.map fun v => v.category).sum ≤ 8) (hdg : decode cc pc = .ok (.invokevirtual index, 3)) (hf : cells + 0 ≤ R.cells ∧ slots + 0 ≤ R.slots)
    (kk : ∀ (H1 : Heap) (locs1 : List Loc), SP D cy S1 H1 → (∀ a, S1 a ≠ none → A0 a) → va_S A0 H0 H1 locs1 → W p l e R s m args below meth c H1 locs1 (cells + 0) (slots + 0) Q (F0 m (pc + 3) ls (.int r :: rest))) : W p l e R s m args below meth c H locs cells slots Q (F0 m pc ls (.int a3 :: .int a2 :: .int a1 :: .ref a0 :: rest)) := by
  exact k_iVm (As := [.int a1, .int a2, .int a3]) hF hsz (m_X7_ask l D cy H.size S a0 a1 a2 a3 r S1 h) (cwV_of (n := 3) hF.2.2.2.2 hk wd_1109 wd_1110 wd_75 wd_1111 rfl rfl (by decide +kernel) hR) rfl hK hP hD hA hS (ci := 6) hc rfl hW rfl hdg hf kk
/-- VowBlocksModel.isSetting(I)Z -/
def f_X7_isSetting (a0 : Int32) : Option (Int32) :=
  (f_X7_within a0 0 1).bind fun x2 =>
  (zz x2).bind fun _ =>
  some x2
abbrev rm_X7_isSetting : Room := { frames := 1, cells := 0, slots := 0, locals := 22 }
set_option maxHeartbeats 4000000 in
set_option maxRecDepth 100000 in
theorem m_X7_isSetting (l : Launch) (D : va_G) (cy : Nat → ClassId) (S : St) (a0 : Int32) (r : Int32) (h : f_X7_isSetting a0 = some r) : Met l yX7_isSetting (wsA yX7_isSetting cX7_isSetting 1 (some .boolean)) rm_X7_isSetting (va_Pc [.int a0] (PS D cy S)) (va_Qi (fun r' (_ : Unit) => r' = r) (fun _ _ => True) noA) 0 0 noA := by
  refine Met.ofW (cc := cX7_isSetting) (maxL := 1) (ret := (some .boolean)) (by decide) rfl ?_
  intro p e s m args below meth c s₁ B hml hv
  obtain ⟨rfl, hP, hK⟩ := hv
  have hx := B.exec
  have hb := B.bytes
  have hr := B.returns
  have hts9 := atoms_spec (ws := wsA yX7_isSetting cX7_isSetting 1 (some .boolean)) B.pre
  have hts : ∀ w ∈ ALLW, w.before _ s = true := fun w h => hts9 w (List.mem_cons_of_mem _ h)
  have hown : s.vm.findClass RX7 = some m.cls := findClass_of_methodNamed B.named
  have hlocks := B.notSynchronized
  have hS : va_S noA s.heap s.heap [] := va_S.rf
  have hl := lv_entry [.int a0] (n := 1) (Nat.le_of_ble_eq_true rfl)
  rw [lg_entry_eq]
  generalize (lg_sl [.int a0] ++ List.replicate (1 - (lg_sl [.int a0]).length) Slot.unset).toArray = ls at hl ⊢
  have hl : lv_has ls 1 [(0, .int a0)] := hl
  rw [f_X7_isSetting] at h
  refine lv_iload_n hx hb dX7_isSetting_0 rfl (lv_at hl 0 rfl) ?_
  refine lv_iconst (v := 0) hx hb dX7_isSetting_1 (by decide) ?_
  refine lv_iconst (v := 1) hx hb dX7_isSetting_2 (by decide) ?_
  replace h := bd h
  obtain ⟨x2, q1, h⟩ := h
  refine c_X7_within ⟨hx, hb, hml, hown, hts⟩ hl.1 hK hP hS wd_938 ⟨(Nat.le_of_ble_eq_true rfl), (Nat.le_of_ble_eq_true rfl)⟩ q1 (Nat.le_of_ble_eq_true rfl) dX7_isSetting_3 ⟨(Nat.le_of_ble_eq_true rfl), (Nat.le_of_ble_eq_true rfl)⟩ (fun H locs hP hS => ?_)
  replace h := bd h
  obtain ⟨_, q3, h⟩ := h
  cases h
  exact e_zp hx hb hlocks (zz_spec q3) hr hS (Nat.le_of_ble_eq_true rfl) (Nat.le_of_ble_eq_true rfl) dX7_isSetting_6
set_option maxRecDepth 100000 in
theorem c_X7_isSetting {p : Program} {l : Launch} {e : Env} {R : Room} {s : State} {m : MethodId} {args : Array Value} {below : List Frame} {meth : Method} {c : Code} {H : Heap} {locs : List Loc} {cells slots : Nat} {Q : State → Prop} {cc : ByteArray} {pc index nL : Nat} {ls : Array Slot} {rest : List Value} {D : va_G} {cy : Nat → ClassId} {A0 : Nat → Prop} {S : St} {H0 : Heap} {own : String} {a0 : Int32} {r : Int32}  (hF : CallFix p m c cc nL s args ALLW own) (hsz : ls.size = nL) (hK : va_K D vwCl (tyL cy) s) (hP : SP D cy S H) (hS : va_S A0 H0 H locs) (hk : Cond.methodLink own index yX7_isSetting ∈ ALLW) (hR : rm_X7_isSetting.frames + 1 ≤ R.frames ∧ 8 + (1 + 11) + rm_X7_isSetting.locals ≤ R.locals) (h : f_X7_isSetting a0 = some r) (hW : (rest.map fun v => v.category).sum ≤ 8) (hdg : decode cc pc = .ok (.invokestatic index, 3)) (hf : cells + 0 ≤ R.cells ∧ slots + 0 ≤ R.slots)
    (kk : ∀ (H1 : Heap) (locs1 : List Loc), SP D cy S H1 → va_S A0 H0 H1 locs1 → W p l e R s m args below meth c H1 locs1 (cells + 0) (slots + 0) Q (F0 m (pc + 3) ls (.int r :: rest))) : W p l e R s m args below meth c H locs cells slots Q (F0 m pc ls (.int a0 :: rest)) := by
  exact k_iSp (As := [.int a0]) hF hsz (m_X7_isSetting l D cy S a0 r h) (cwS_of (n := 1) hF.2.2.2.2 hk wd_1128 wd_75 wd_1129 rfl rfl (by decide +kernel) hR) rfl hK hP hS hW rfl hdg hf kk
/-- VowBlocksModel.set(II)I -/
def f_X7_set (S : St) (a0 : Nat) (a1 : Int32) (a2 : Int32) : Option (Int32 × St) :=
  (f_X7_isSetting a1).bind fun x2 =>
  (
    if x2 = 0 then
      some 1
    else
      if a1 = 0 then
        (f_X7_within a2 1 400).bind fun x11 =>
        if x11 = 0 then
          if a1 = 1 then
            (f_X7_within a2 0 100).bind fun x15 =>
            if x15 = 0 then
              some 2
            else
              some 0
          else
            some 2
        else
          some 0
      else
        if a1 = 1 then
          (f_X7_within a2 0 100).bind fun x8 =>
          if x8 = 0 then
            some 2
          else
            some 0
        else
          some 2
  : Option (Int32)).bind fun t3 =>
  (pI S a0 6 5 t3).bind fun Z17 =>
  (gI Z17 a0 6 5).bind fun x19 =>
  if x19 ≤ 0 then
    (oO Z17 a0 6).bind fun _ =>
    (f_X7_save Z17 a0).bind fun z24 =>
    (gR z24 a0 6 0).bind fun x25 =>
    (aI z24 x25 a1).bind fun x27 =>
    (gR z24 a0 6 0).bind fun x29 =>
    (sI z24 x29 a1 a2).bind fun Z31 =>
    some (x27, Z31)
  else
    some (0, Z17)
abbrev rm_X7_set : Room := { frames := 2, cells := 0, slots := 0, locals := 42 }
set_option maxHeartbeats 4000000 in
set_option maxRecDepth 100000 in
theorem m_X7_set (l : Launch) (D : va_G) (cy : Nat → ClassId) (sz : Nat) (S : St) (a0 : Nat) (a1 : Int32) (a2 : Int32) (r : Int32) (S1 : St) (h : f_X7_set S a0 a1 a2 = some (r, S1)) : Met l yX7_set (wsA yX7_set cX7_set 4 (some .int)) rm_X7_set (va_Pc [.ref a0, .int a1, .int a2] (PN D cy S sz)) (va_Qi (fun r' (_ : Unit) => r' = r) (fun _ t => PoS D cy S1 (dm S sz) t) (dm S sz)) 0 0 (dm S sz) := by
  refine Met.ofW (cc := cX7_set) (maxL := 4) (ret := (some .int)) (by decide) rfl ?_
  intro p e s m args below meth c s₁ B hml hv
  obtain ⟨rfl, hsz, hP, hK⟩ := hv
  have hx := B.exec
  have hb := B.bytes
  have hr := B.returns
  have hts9 := atoms_spec (ws := wsA yX7_set cX7_set 4 (some .int)) B.pre
  have hts : ∀ w ∈ ALLW, w.before _ s = true := fun w h => hts9 w (List.mem_cons_of_mem _ h)
  have hown : s.vm.findClass RX7 = some m.cls := findClass_of_methodNamed B.named
  have hlocks := B.notSynchronized
  subst hsz
  have hD : ∀ a, S a ≠ none → dm S s.heap.size a := fun a h => Or.inl h
  have hA : ∀ q : Nat, s.heap.size ≤ q → dm S s.heap.size q := fun q h => Or.inr h
  have hS : va_S (dm S s.heap.size) s.heap s.heap [] := va_S.rf
  have hl := lv_entry [.ref a0, .int a1, .int a2] (n := 4) (Nat.le_of_ble_eq_true rfl)
  rw [lg_entry_eq]
  generalize (lg_sl [.ref a0, .int a1, .int a2] ++ List.replicate (4 - (lg_sl [.ref a0, .int a1, .int a2]).length) Slot.unset).toArray = ls at hl ⊢
  have hl : lv_has ls 4 [(0, .ref a0), (1, .int a1), (2, .int a2)] := hl
  rw [f_X7_set] at h
  refine lv_aload_n hx hb dX7_set_0 rfl (lv_at hl 0 rfl) ?_
  refine lv_iload_n hx hb dX7_set_1 rfl (lv_at hl 1 rfl) ?_
  replace h := bd h
  obtain ⟨x2, q1, h⟩ := h
  refine c_X7_isSetting ⟨hx, hb, hml, hown, hts⟩ hl.1 hK hP hS wd_1127 ⟨(Nat.le_of_ble_eq_true rfl), (Nat.le_of_ble_eq_true rfl)⟩ q1 (Nat.le_of_ble_eq_true rfl) dX7_set_2 ⟨(Nat.le_of_ble_eq_true rfl), (Nat.le_of_ble_eq_true rfl)⟩ (fun H locs hP hS => ?_)
  replace h := bd h
  obtain ⟨t3, ht, h⟩ := h
  have K3 : ∀ (H : Heap) (locs : List Loc) (ls : Array Slot), SP D cy S H → (∀ a, S a ≠ none → (dm S s.heap.size) a) → va_S (dm S s.heap.size) s.heap H locs → lv_has ls 4 [(0, .ref a0), (1, .int a1), (2, .int a2)] → W p l e rm_X7_set s m ([.ref a0, .int a1, .int a2] : List Value).toArray below meth c H locs 0 0 (MQ below (va_Qi (fun r' (_ : Unit) => r' = r) (fun _ t => PoS D cy S1 (dm S s.heap.size) t) (dm S s.heap.size)) ([.ref a0, .int a1, .int a2] : List Value).toArray s 0 0 (dm S s.heap.size)) (F0 m 47 ls [.int t3, .ref a0]) := by
    intro H locs ls hP hD hS hl
    replace h := bd h
    obtain ⟨Z17, q18, h⟩ := h
    refine fp_6_5 hx hb hts hown hK hP hD hS wd_892 q18 dX7_set_47 (fun H locs hz9 hP hD hS => ?_)
    refine lv_aload_n hx hb dX7_set_50 rfl (lv_at hl 0 rfl) ?_
    replace h := bd h
    obtain ⟨x19, q20, h⟩ := h
    refine fg_6_5 hx hb hts hown hK hP wd_892 q20 dX7_set_51 ?_
    refine lv_if_le (tgt := 59) hx hb dX7_set_54 (by decide) (fun c21 => ?_) (fun c21 => ?_)
    · replace h := ifp c21 h
      refine lv_aload_n hx hb dX7_set_59 rfl (lv_at hl 0 rfl) ?_
      replace h := bd h
      obtain ⟨_, q22, h⟩ := h
      replace h := bd h
      obtain ⟨z24, q23, h⟩ := h
      refine c_X7_save ⟨hx, hb, hml, hown, hts⟩ hl.1 hK hP hD hA hS wd_941 ⟨(Nat.le_of_ble_eq_true rfl), (Nat.le_of_ble_eq_true rfl)⟩ q23 q22 (Nat.le_of_ble_eq_true rfl) dX7_set_60 ⟨(Nat.le_of_ble_eq_true rfl), (Nat.le_of_ble_eq_true rfl)⟩ (fun H locs hP hD hS => ?_)
      refine lv_aload_n hx hb dX7_set_63 rfl (lv_at hl 0 rfl) ?_
      replace h := bd h
      obtain ⟨x25, q26, h⟩ := h
      refine fg_6_0 hx hb hts hown hK hP wd_887 q26 dX7_set_64 ?_
      refine lv_iload_n hx hb dX7_set_67 rfl (lv_at hl 1 rfl) ?_
      replace h := bd h
      obtain ⟨x27, q28, h⟩ := h
      refine r_aI hx hb hK hP q28 dX7_set_68 ?_
      refine lv_istore_n (lv' := [(3, .int x27), (0, .ref a0), (1, .int a1), (2, .int a2)]) hx hb dX7_set_69 rfl hl (by decide) rfl (fun ls hl => ?_)
      refine lv_aload_n hx hb dX7_set_70 rfl (lv_at hl 1 rfl) ?_
      replace h := bd h
      obtain ⟨x29, q30, h⟩ := h
      refine fg_6_0 hx hb hts hown hK hP wd_887 q30 dX7_set_71 ?_
      refine lv_iload_n hx hb dX7_set_74 rfl (lv_at hl 2 rfl) ?_
      refine lv_iload_n hx hb dX7_set_75 rfl (lv_at hl 3 rfl) ?_
      replace h := bd h
      obtain ⟨Z31, q32, h⟩ := h
      refine r_sI hx hb hK hP hD hS q32 dX7_set_76 (fun H locs hz9 hP hD hS => ?_)
      refine lv_iload_n hx hb dX7_set_77 rfl (lv_at hl 0 rfl) ?_
      cases h
      exact e_im hx hb hlocks hr hP hD hS (Nat.le_of_ble_eq_true rfl) (Nat.le_of_ble_eq_true rfl) dX7_set_78
    · replace h := ifn c21 h
      refine lv_iconst (v := 0) hx hb dX7_set_57 (by decide) ?_
      cases h
      exact e_im hx hb hlocks hr hP hD hS (Nat.le_of_ble_eq_true rfl) (Nat.le_of_ble_eq_true rfl) dX7_set_58
  replace h := ht
  refine lv_if_ne (tgt := 12) hx hb dX7_set_5 (by decide) (fun c4 => ?_) (fun c4 => ?_)
  · replace h := ifn c4 h
    refine lv_iload_n hx hb dX7_set_12 rfl (lv_at hl 1 rfl) ?_
    refine lv_if_ne (tgt := 27) hx hb dX7_set_13 (by decide) (fun c5 => ?_) (fun c5 => ?_)
    · replace h := ifn c5 h
      refine lv_iload_n hx hb dX7_set_27 rfl (lv_at hl 1 rfl) ?_
      refine lv_iconst (v := 1) hx hb dX7_set_28 (by decide) ?_
      refine lv_icmp_ne (tgt := 46) hx hb dX7_set_29 (by decide) (fun c6 => ?_) (fun c6 => ?_)
      · replace h := ifn c6 h
        refine lv_iconst (v := 2) hx hb dX7_set_46 (by decide) ?_
        cases h
        exact K3 _ _ _ hP hD hS (lv_sub hl [0, 1, 2] rfl)
      · replace h := ifp c6 h
        refine lv_iload_n hx hb dX7_set_32 rfl (lv_at hl 2 rfl) ?_
        refine lv_iconst (v := 0) hx hb dX7_set_33 (by decide) ?_
        refine lv_bipush (v := 100) hx hb dX7_set_34 (by decide) ?_
        replace h := bd h
        obtain ⟨x8, q7, h⟩ := h
        refine c_X7_within ⟨hx, hb, hml, hown, hts⟩ hl.1 hK hP hS wd_938 ⟨(Nat.le_of_ble_eq_true rfl), (Nat.le_of_ble_eq_true rfl)⟩ q7 (Nat.le_of_ble_eq_true rfl) dX7_set_36 ⟨(Nat.le_of_ble_eq_true rfl), (Nat.le_of_ble_eq_true rfl)⟩ (fun H locs hP hS => ?_)
        refine lv_if_eq (tgt := 46) hx hb dX7_set_39 (by decide) (fun c9 => ?_) (fun c9 => ?_)
        · replace h := ifp c9 h
          refine lv_iconst (v := 2) hx hb dX7_set_46 (by decide) ?_
          cases h
          exact K3 _ _ _ hP hD hS (lv_sub hl [0, 1, 2] rfl)
        · replace h := ifn c9 h
          refine lv_iconst (v := 0) hx hb dX7_set_42 (by decide) ?_
          refine lv_goto (tgt := 47) hx hb dX7_set_43 (by decide) ?_
          cases h
          exact K3 _ _ _ hP hD hS (lv_sub hl [0, 1, 2] rfl)
    · replace h := ifp c5 h
      refine lv_iload_n hx hb dX7_set_16 rfl (lv_at hl 2 rfl) ?_
      refine lv_iconst (v := 1) hx hb dX7_set_17 (by decide) ?_
      refine lv_sipush (v := 400) hx hb dX7_set_18 (by decide) ?_
      replace h := bd h
      obtain ⟨x11, q10, h⟩ := h
      refine c_X7_within ⟨hx, hb, hml, hown, hts⟩ hl.1 hK hP hS wd_938 ⟨(Nat.le_of_ble_eq_true rfl), (Nat.le_of_ble_eq_true rfl)⟩ q10 (Nat.le_of_ble_eq_true rfl) dX7_set_21 ⟨(Nat.le_of_ble_eq_true rfl), (Nat.le_of_ble_eq_true rfl)⟩ (fun H locs hP hS => ?_)
      refine lv_if_ne (tgt := 42) hx hb dX7_set_24 (by decide) (fun c12 => ?_) (fun c12 => ?_)
      · replace h := ifn c12 h
        refine lv_iconst (v := 0) hx hb dX7_set_42 (by decide) ?_
        refine lv_goto (tgt := 47) hx hb dX7_set_43 (by decide) ?_
        cases h
        exact K3 _ _ _ hP hD hS (lv_sub hl [0, 1, 2] rfl)
      · replace h := ifp c12 h
        refine lv_iload_n hx hb dX7_set_27 rfl (lv_at hl 1 rfl) ?_
        refine lv_iconst (v := 1) hx hb dX7_set_28 (by decide) ?_
        refine lv_icmp_ne (tgt := 46) hx hb dX7_set_29 (by decide) (fun c13 => ?_) (fun c13 => ?_)
        · replace h := ifn c13 h
          refine lv_iconst (v := 2) hx hb dX7_set_46 (by decide) ?_
          cases h
          exact K3 _ _ _ hP hD hS (lv_sub hl [0, 1, 2] rfl)
        · replace h := ifp c13 h
          refine lv_iload_n hx hb dX7_set_32 rfl (lv_at hl 2 rfl) ?_
          refine lv_iconst (v := 0) hx hb dX7_set_33 (by decide) ?_
          refine lv_bipush (v := 100) hx hb dX7_set_34 (by decide) ?_
          replace h := bd h
          obtain ⟨x15, q14, h⟩ := h
          refine c_X7_within ⟨hx, hb, hml, hown, hts⟩ hl.1 hK hP hS wd_938 ⟨(Nat.le_of_ble_eq_true rfl), (Nat.le_of_ble_eq_true rfl)⟩ q14 (Nat.le_of_ble_eq_true rfl) dX7_set_36 ⟨(Nat.le_of_ble_eq_true rfl), (Nat.le_of_ble_eq_true rfl)⟩ (fun H locs hP hS => ?_)
          refine lv_if_eq (tgt := 46) hx hb dX7_set_39 (by decide) (fun c16 => ?_) (fun c16 => ?_)
          · replace h := ifp c16 h
            refine lv_iconst (v := 2) hx hb dX7_set_46 (by decide) ?_
            cases h
            exact K3 _ _ _ hP hD hS (lv_sub hl [0, 1, 2] rfl)
          · replace h := ifn c16 h
            refine lv_iconst (v := 0) hx hb dX7_set_42 (by decide) ?_
            refine lv_goto (tgt := 47) hx hb dX7_set_43 (by decide) ?_
            cases h
            exact K3 _ _ _ hP hD hS (lv_sub hl [0, 1, 2] rfl)
  · replace h := ifp c4 h
    refine lv_iconst (v := 1) hx hb dX7_set_8 (by decide) ?_
    refine lv_goto (tgt := 47) hx hb dX7_set_9 (by decide) ?_
    cases h
    exact K3 _ _ _ hP hD hS (lv_sub hl [0, 1, 2] rfl)
set_option maxRecDepth 100000 in
theorem c_X7_set {p : Program} {l : Launch} {e : Env} {R : Room} {s : State} {m : MethodId} {args : Array Value} {below : List Frame} {meth : Method} {c : Code} {H : Heap} {locs : List Loc} {cells slots : Nat} {Q : State → Prop} {cc : ByteArray} {pc index nL : Nat} {ls : Array Slot} {rest : List Value} {D : va_G} {cy : Nat → ClassId} {A0 : Nat → Prop} {S : St} {H0 : Heap} {own : String} {u : Unit} {a0 : Nat} {a1 : Int32} {a2 : Int32} {r : Int32} {S1 : St}  (hF : CallFix p m c cc nL s args ALLW own) (hsz : ls.size = nL) (hK : va_K D vwCl (tyL cy) s) (hP : SP D cy S H) (hD : ∀ a, S a ≠ none → A0 a) (hA : ∀ q, H0.size ≤ q → A0 q) (hS : va_S A0 H0 H locs) (hk : Cond.methodLink own index yX7_set ∈ ALLW) (hR : rm_X7_set.frames + 1 ≤ R.frames ∧ 8 + (4 + 11) + rm_X7_set.locals ≤ R.locals) (h : f_X7_set S a0 a1 a2 = some (r, S1)) (hc : oO S a0 6 = some u) (hW : (rest.map fun v => v.category).sum ≤ 8) (hdg : decode cc pc = .ok (.invokevirtual index, 3)) (hf : cells + 0 ≤ R.cells ∧ slots + 0 ≤ R.slots)
    (kk : ∀ (H1 : Heap) (locs1 : List Loc), SP D cy S1 H1 → (∀ a, S1 a ≠ none → A0 a) → va_S A0 H0 H1 locs1 → W p l e R s m args below meth c H1 locs1 (cells + 0) (slots + 0) Q (F0 m (pc + 3) ls (.int r :: rest))) : W p l e R s m args below meth c H locs cells slots Q (F0 m pc ls (.int a2 :: .int a1 :: .ref a0 :: rest)) := by
  exact k_iVm (As := [.int a1, .int a2]) hF hsz (m_X7_set l D cy H.size S a0 a1 a2 r S1 h) (cwV_of (n := 2) hF.2.2.2.2 hk wd_1124 wd_1125 wd_75 wd_1126 rfl rfl (by decide +kernel) hR) rfl hK hP hD hA hS (ci := 6) hc rfl hW rfl hdg hf kk
/-- VowBlocksModel.append(I)I -/
def f_X7_append (S : St) (a0 : Nat) (a1 : Int32) : Option (Int32 × St) :=
  (f_X7_within a1 33 126).bind fun x2 =>
  (
    if x2 = 0 then
      some 1
    else
      (gI S a0 6 3).bind fun x5 =>
      if x5 = 60 then
        some 2
      else
        some 0
  : Option (Int32)).bind fun t3 =>
  (pI S a0 6 5 t3).bind fun Z8 =>
  (gI Z8 a0 6 5).bind fun x10 =>
  if x10 ≤ 0 then
    (gR Z8 a0 6 4).bind fun x13 =>
    (gI Z8 a0 6 3).bind fun x15 =>
    (sI Z8 x13 x15 a1).bind fun Z17 =>
    (gI Z17 a0 6 3).bind fun x19 =>
    (pI Z17 a0 6 3 (x19 + 1)).bind fun Z21 =>
    (gI Z21 a0 6 3).bind fun x23 =>
    some (x23, Z21)
  else
    some (0, Z8)
abbrev rm_X7_append : Room := { frames := 1, cells := 0, slots := 0, locals := 22 }
set_option maxHeartbeats 4000000 in
set_option maxRecDepth 100000 in
theorem m_X7_append (l : Launch) (D : va_G) (cy : Nat → ClassId) (sz : Nat) (S : St) (a0 : Nat) (a1 : Int32) (r : Int32) (S1 : St) (h : f_X7_append S a0 a1 = some (r, S1)) : Met l yX7_append (wsA yX7_append cX7_append 2 (some .int)) rm_X7_append (va_Pc [.ref a0, .int a1] (PN D cy S sz)) (va_Qi (fun r' (_ : Unit) => r' = r) (fun _ t => PoS D cy S1 (dm S sz) t) (dm S sz)) 0 0 (dm S sz) := by
  refine Met.ofW (cc := cX7_append) (maxL := 2) (ret := (some .int)) (by decide) rfl ?_
  intro p e s m args below meth c s₁ B hml hv
  obtain ⟨rfl, hsz, hP, hK⟩ := hv
  have hx := B.exec
  have hb := B.bytes
  have hr := B.returns
  have hts9 := atoms_spec (ws := wsA yX7_append cX7_append 2 (some .int)) B.pre
  have hts : ∀ w ∈ ALLW, w.before _ s = true := fun w h => hts9 w (List.mem_cons_of_mem _ h)
  have hown : s.vm.findClass RX7 = some m.cls := findClass_of_methodNamed B.named
  have hlocks := B.notSynchronized
  subst hsz
  have hD : ∀ a, S a ≠ none → dm S s.heap.size a := fun a h => Or.inl h
  have hA : ∀ q : Nat, s.heap.size ≤ q → dm S s.heap.size q := fun q h => Or.inr h
  have hS : va_S (dm S s.heap.size) s.heap s.heap [] := va_S.rf
  have hl := lv_entry [.ref a0, .int a1] (n := 2) (Nat.le_of_ble_eq_true rfl)
  rw [lg_entry_eq]
  generalize (lg_sl [.ref a0, .int a1] ++ List.replicate (2 - (lg_sl [.ref a0, .int a1]).length) Slot.unset).toArray = ls at hl ⊢
  have hl : lv_has ls 2 [(0, .ref a0), (1, .int a1)] := hl
  rw [f_X7_append] at h
  refine lv_aload_n hx hb dX7_append_0 rfl (lv_at hl 0 rfl) ?_
  refine lv_iload_n hx hb dX7_append_1 rfl (lv_at hl 1 rfl) ?_
  refine lv_bipush (v := 33) hx hb dX7_append_2 (by decide) ?_
  refine lv_bipush (v := 126) hx hb dX7_append_4 (by decide) ?_
  replace h := bd h
  obtain ⟨x2, q1, h⟩ := h
  refine c_X7_within ⟨hx, hb, hml, hown, hts⟩ hl.1 hK hP hS wd_938 ⟨(Nat.le_of_ble_eq_true rfl), (Nat.le_of_ble_eq_true rfl)⟩ q1 (Nat.le_of_ble_eq_true rfl) dX7_append_6 ⟨(Nat.le_of_ble_eq_true rfl), (Nat.le_of_ble_eq_true rfl)⟩ (fun H locs hP hS => ?_)
  replace h := bd h
  obtain ⟨t3, ht, h⟩ := h
  have K3 : ∀ (H : Heap) (locs : List Loc) (ls : Array Slot), SP D cy S H → (∀ a, S a ≠ none → (dm S s.heap.size) a) → va_S (dm S s.heap.size) s.heap H locs → lv_has ls 2 [(0, .ref a0), (1, .int a1)] → W p l e rm_X7_append s m ([.ref a0, .int a1] : List Value).toArray below meth c H locs 0 0 (MQ below (va_Qi (fun r' (_ : Unit) => r' = r) (fun _ t => PoS D cy S1 (dm S s.heap.size) t) (dm S s.heap.size)) ([.ref a0, .int a1] : List Value).toArray s 0 0 (dm S s.heap.size)) (F0 m 30 ls [.int t3, .ref a0]) := by
    intro H locs ls hP hD hS hl
    replace h := bd h
    obtain ⟨Z8, q9, h⟩ := h
    refine fp_6_5 hx hb hts hown hK hP hD hS wd_892 q9 dX7_append_30 (fun H locs hz9 hP hD hS => ?_)
    refine lv_aload_n hx hb dX7_append_33 rfl (lv_at hl 0 rfl) ?_
    replace h := bd h
    obtain ⟨x10, q11, h⟩ := h
    refine fg_6_5 hx hb hts hown hK hP wd_892 q11 dX7_append_34 ?_
    refine lv_if_le (tgt := 42) hx hb dX7_append_37 (by decide) (fun c12 => ?_) (fun c12 => ?_)
    · replace h := ifp c12 h
      refine lv_aload_n hx hb dX7_append_42 rfl (lv_at hl 0 rfl) ?_
      replace h := bd h
      obtain ⟨x13, q14, h⟩ := h
      refine fg_6_4 hx hb hts hown hK hP wd_891 q14 dX7_append_43 ?_
      refine lv_aload_n hx hb dX7_append_46 rfl (lv_at hl 0 rfl) ?_
      replace h := bd h
      obtain ⟨x15, q16, h⟩ := h
      refine fg_6_3 hx hb hts hown hK hP wd_890 q16 dX7_append_47 ?_
      refine lv_iload_n hx hb dX7_append_50 rfl (lv_at hl 1 rfl) ?_
      replace h := bd h
      obtain ⟨Z17, q18, h⟩ := h
      refine r_sI hx hb hK hP hD hS q18 dX7_append_51 (fun H locs hz9 hP hD hS => ?_)
      refine lv_aload_n hx hb dX7_append_52 rfl (lv_at hl 0 rfl) ?_
      refine lv_dup hx hb dX7_append_53 rfl ?_
      replace h := bd h
      obtain ⟨x19, q20, h⟩ := h
      refine fg_6_3 hx hb hts hown hK hP wd_890 q20 dX7_append_54 ?_
      refine lv_iconst (v := 1) hx hb dX7_append_57 (by decide) ?_
      refine lv_iadd hx hb dX7_append_58 ?_
      replace h := bd h
      obtain ⟨Z21, q22, h⟩ := h
      refine fp_6_3 hx hb hts hown hK hP hD hS wd_890 q22 dX7_append_59 (fun H locs hz9 hP hD hS => ?_)
      refine lv_aload_n hx hb dX7_append_62 rfl (lv_at hl 0 rfl) ?_
      replace h := bd h
      obtain ⟨x23, q24, h⟩ := h
      refine fg_6_3 hx hb hts hown hK hP wd_890 q24 dX7_append_63 ?_
      cases h
      exact e_im hx hb hlocks hr hP hD hS (Nat.le_of_ble_eq_true rfl) (Nat.le_of_ble_eq_true rfl) dX7_append_66
    · replace h := ifn c12 h
      refine lv_iconst (v := 0) hx hb dX7_append_40 (by decide) ?_
      cases h
      exact e_im hx hb hlocks hr hP hD hS (Nat.le_of_ble_eq_true rfl) (Nat.le_of_ble_eq_true rfl) dX7_append_41
  replace h := ht
  refine lv_if_ne (tgt := 16) hx hb dX7_append_9 (by decide) (fun c4 => ?_) (fun c4 => ?_)
  · replace h := ifn c4 h
    refine lv_aload_n hx hb dX7_append_16 rfl (lv_at hl 0 rfl) ?_
    replace h := bd h
    obtain ⟨x5, q6, h⟩ := h
    refine fg_6_3 hx hb hts hown hK hP wd_890 q6 dX7_append_17 ?_
    refine lv_bipush (v := 60) hx hb dX7_append_20 (by decide) ?_
    refine lv_icmp_ne (tgt := 29) hx hb dX7_append_22 (by decide) (fun c7 => ?_) (fun c7 => ?_)
    · replace h := ifn c7 h
      refine lv_iconst (v := 0) hx hb dX7_append_29 (by decide) ?_
      cases h
      exact K3 _ _ _ hP hD hS (lv_sub hl [0, 1] rfl)
    · replace h := ifp c7 h
      refine lv_iconst (v := 2) hx hb dX7_append_25 (by decide) ?_
      refine lv_goto (tgt := 30) hx hb dX7_append_26 (by decide) ?_
      cases h
      exact K3 _ _ _ hP hD hS (lv_sub hl [0, 1] rfl)
  · replace h := ifp c4 h
    refine lv_iconst (v := 1) hx hb dX7_append_12 (by decide) ?_
    refine lv_goto (tgt := 30) hx hb dX7_append_13 (by decide) ?_
    cases h
    exact K3 _ _ _ hP hD hS (lv_sub hl [0, 1] rfl)
set_option maxRecDepth 100000 in
theorem c_X7_append {p : Program} {l : Launch} {e : Env} {R : Room} {s : State} {m : MethodId} {args : Array Value} {below : List Frame} {meth : Method} {c : Code} {H : Heap} {locs : List Loc} {cells slots : Nat} {Q : State → Prop} {cc : ByteArray} {pc index nL : Nat} {ls : Array Slot} {rest : List Value} {D : va_G} {cy : Nat → ClassId} {A0 : Nat → Prop} {S : St} {H0 : Heap} {own : String} {u : Unit} {a0 : Nat} {a1 : Int32} {r : Int32} {S1 : St}  (hF : CallFix p m c cc nL s args ALLW own) (hsz : ls.size = nL) (hK : va_K D vwCl (tyL cy) s) (hP : SP D cy S H) (hD : ∀ a, S a ≠ none → A0 a) (hA : ∀ q, H0.size ≤ q → A0 q) (hS : va_S A0 H0 H locs) (hk : Cond.methodLink own index yX7_append ∈ ALLW) (hR : rm_X7_append.frames + 1 ≤ R.frames ∧ 8 + (2 + 11) + rm_X7_append.locals ≤ R.locals) (h : f_X7_append S a0 a1 = some (r, S1)) (hc : oO S a0 6 = some u) (hW : (rest.map fun v => v.category).sum ≤ 8) (hdg : decode cc pc = .ok (.invokevirtual index, 3)) (hf : cells + 0 ≤ R.cells ∧ slots + 0 ≤ R.slots)
    (kk : ∀ (H1 : Heap) (locs1 : List Loc), SP D cy S1 H1 → (∀ a, S1 a ≠ none → A0 a) → va_S A0 H0 H1 locs1 → W p l e R s m args below meth c H1 locs1 (cells + 0) (slots + 0) Q (F0 m (pc + 3) ls (.int r :: rest))) : W p l e R s m args below meth c H locs cells slots Q (F0 m pc ls (.int a1 :: .ref a0 :: rest)) := by
  exact k_iVm (As := [.int a1]) hF hsz (m_X7_append l D cy H.size S a0 a1 r S1 h) (cwV_of (n := 1) hF.2.2.2.2 hk wd_1131 wd_1132 wd_75 wd_1133 rfl rfl (by decide +kernel) hR) rfl hK hP hD hA hS (ci := 6) hc rfl hW rfl hdg hf kk
/-- VowBlocksModel.clearBuffer()I -/
def f_X7_clearBuffer (S : St) (a0 : Nat) : Option (Int32 × St) :=
  (pI S a0 6 5 0).bind fun Z1 =>
  (gI Z1 a0 6 3).bind fun x3 =>
  (pI Z1 a0 6 3 0).bind fun Z5 =>
  some (x3, Z5)
abbrev rm_X7_clearBuffer : Room := { frames := 0, cells := 0, slots := 0, locals := 0 }
set_option maxHeartbeats 4000000 in
set_option maxRecDepth 100000 in
theorem m_X7_clearBuffer (l : Launch) (D : va_G) (cy : Nat → ClassId) (sz : Nat) (S : St) (a0 : Nat) (r : Int32) (S1 : St) (h : f_X7_clearBuffer S a0 = some (r, S1)) : Met l yX7_clearBuffer (wsA yX7_clearBuffer cX7_clearBuffer 2 (some .int)) rm_X7_clearBuffer (va_Pc [.ref a0] (PN D cy S sz)) (va_Qi (fun r' (_ : Unit) => r' = r) (fun _ t => PoS D cy S1 (dm S sz) t) (dm S sz)) 0 0 (dm S sz) := by
  refine Met.ofW (cc := cX7_clearBuffer) (maxL := 2) (ret := (some .int)) (by decide) rfl ?_
  intro p e s m args below meth c s₁ B hml hv
  obtain ⟨rfl, hsz, hP, hK⟩ := hv
  have hx := B.exec
  have hb := B.bytes
  have hr := B.returns
  have hts9 := atoms_spec (ws := wsA yX7_clearBuffer cX7_clearBuffer 2 (some .int)) B.pre
  have hts : ∀ w ∈ ALLW, w.before _ s = true := fun w h => hts9 w (List.mem_cons_of_mem _ h)
  have hown : s.vm.findClass RX7 = some m.cls := findClass_of_methodNamed B.named
  have hlocks := B.notSynchronized
  subst hsz
  have hD : ∀ a, S a ≠ none → dm S s.heap.size a := fun a h => Or.inl h
  have hA : ∀ q : Nat, s.heap.size ≤ q → dm S s.heap.size q := fun q h => Or.inr h
  have hS : va_S (dm S s.heap.size) s.heap s.heap [] := va_S.rf
  have hl := lv_entry [.ref a0] (n := 2) (Nat.le_of_ble_eq_true rfl)
  rw [lg_entry_eq]
  generalize (lg_sl [.ref a0] ++ List.replicate (2 - (lg_sl [.ref a0]).length) Slot.unset).toArray = ls at hl ⊢
  have hl : lv_has ls 2 [(0, .ref a0)] := hl
  rw [f_X7_clearBuffer] at h
  refine lv_aload_n hx hb dX7_clearBuffer_0 rfl (lv_at hl 0 rfl) ?_
  refine lv_iconst (v := 0) hx hb dX7_clearBuffer_1 (by decide) ?_
  replace h := bd h
  obtain ⟨Z1, q2, h⟩ := h
  refine fp_6_5 hx hb hts hown hK hP hD hS wd_892 q2 dX7_clearBuffer_2 (fun H locs hz9 hP hD hS => ?_)
  refine lv_aload_n hx hb dX7_clearBuffer_5 rfl (lv_at hl 0 rfl) ?_
  replace h := bd h
  obtain ⟨x3, q4, h⟩ := h
  refine fg_6_3 hx hb hts hown hK hP wd_890 q4 dX7_clearBuffer_6 ?_
  refine lv_istore_n (lv' := [(1, .int x3), (0, .ref a0)]) hx hb dX7_clearBuffer_9 rfl hl (by decide) rfl (fun ls hl => ?_)
  refine lv_aload_n hx hb dX7_clearBuffer_10 rfl (lv_at hl 1 rfl) ?_
  refine lv_iconst (v := 0) hx hb dX7_clearBuffer_11 (by decide) ?_
  replace h := bd h
  obtain ⟨Z5, q6, h⟩ := h
  refine fp_6_3 hx hb hts hown hK hP hD hS wd_890 q6 dX7_clearBuffer_12 (fun H locs hz9 hP hD hS => ?_)
  refine lv_iload_n hx hb dX7_clearBuffer_15 rfl (lv_at hl 0 rfl) ?_
  cases h
  exact e_im hx hb hlocks hr hP hD hS (Nat.le_of_ble_eq_true rfl) (Nat.le_of_ble_eq_true rfl) dX7_clearBuffer_16
set_option maxRecDepth 100000 in
theorem c_X7_clearBuffer {p : Program} {l : Launch} {e : Env} {R : Room} {s : State} {m : MethodId} {args : Array Value} {below : List Frame} {meth : Method} {c : Code} {H : Heap} {locs : List Loc} {cells slots : Nat} {Q : State → Prop} {cc : ByteArray} {pc index nL : Nat} {ls : Array Slot} {rest : List Value} {D : va_G} {cy : Nat → ClassId} {A0 : Nat → Prop} {S : St} {H0 : Heap} {own : String} {u : Unit} {a0 : Nat} {r : Int32} {S1 : St}  (hF : CallFix p m c cc nL s args ALLW own) (hsz : ls.size = nL) (hK : va_K D vwCl (tyL cy) s) (hP : SP D cy S H) (hD : ∀ a, S a ≠ none → A0 a) (hA : ∀ q, H0.size ≤ q → A0 q) (hS : va_S A0 H0 H locs) (hk : Cond.methodLink own index yX7_clearBuffer ∈ ALLW) (hR : rm_X7_clearBuffer.frames + 1 ≤ R.frames ∧ 8 + (2 + 11) + rm_X7_clearBuffer.locals ≤ R.locals) (h : f_X7_clearBuffer S a0 = some (r, S1)) (hc : oO S a0 6 = some u) (hW : (rest.map fun v => v.category).sum ≤ 8) (hdg : decode cc pc = .ok (.invokevirtual index, 3)) (hf : cells + 0 ≤ R.cells ∧ slots + 0 ≤ R.slots)
    (kk : ∀ (H1 : Heap) (locs1 : List Loc), SP D cy S1 H1 → (∀ a, S1 a ≠ none → A0 a) → va_S A0 H0 H1 locs1 → W p l e R s m args below meth c H1 locs1 (cells + 0) (slots + 0) Q (F0 m (pc + 3) ls (.int r :: rest))) : W p l e R s m args below meth c H locs cells slots Q (F0 m pc ls (.ref a0 :: rest)) := by
  exact k_iVm (As := []) hF hsz (m_X7_clearBuffer l D cy H.size S a0 r S1 h) (cwV_of (n := 0) hF.2.2.2.2 hk wd_1135 wd_1136 wd_75 wd_1137 rfl rfl (by decide +kernel) hR) rfl hK hP hD hA hS (ci := 6) hc rfl hW rfl hdg hf kk
/-- VowBlocksModel.firstError()I -/
def f_X7_firstError (S : St) (a0 : Nat) : Option (Int32 × St) :=
  (pI S a0 6 5 0).bind fun Z1 =>
  (oO Z1 a0 6).bind fun _ =>
  (f_X7_rightUpTo Z1 a0).bind fun z5 =>
  some (z5.1, z5.2)
abbrev rm_X7_firstError : Room := { frames := 4, cells := 0, slots := 0, locals := 87 }
set_option maxHeartbeats 4000000 in
set_option maxRecDepth 100000 in
theorem m_X7_firstError (l : Launch) (D : va_G) (cy : Nat → ClassId) (sz : Nat) (S : St) (a0 : Nat) (r : Int32) (S1 : St) (h : f_X7_firstError S a0 = some (r, S1)) : Met l yX7_firstError (wsA yX7_firstError cX7_firstError 1 (some .int)) rm_X7_firstError (va_Pc [.ref a0] (PN D cy S sz)) (va_Qi (fun r' (_ : Unit) => r' = r) (fun _ t => PoS D cy S1 (dm S sz) t) (dm S sz)) 0 0 (dm S sz) := by
  refine Met.ofW (cc := cX7_firstError) (maxL := 1) (ret := (some .int)) (by decide) rfl ?_
  intro p e s m args below meth c s₁ B hml hv
  obtain ⟨rfl, hsz, hP, hK⟩ := hv
  have hx := B.exec
  have hb := B.bytes
  have hr := B.returns
  have hts9 := atoms_spec (ws := wsA yX7_firstError cX7_firstError 1 (some .int)) B.pre
  have hts : ∀ w ∈ ALLW, w.before _ s = true := fun w h => hts9 w (List.mem_cons_of_mem _ h)
  have hown : s.vm.findClass RX7 = some m.cls := findClass_of_methodNamed B.named
  have hlocks := B.notSynchronized
  subst hsz
  have hD : ∀ a, S a ≠ none → dm S s.heap.size a := fun a h => Or.inl h
  have hA : ∀ q : Nat, s.heap.size ≤ q → dm S s.heap.size q := fun q h => Or.inr h
  have hS : va_S (dm S s.heap.size) s.heap s.heap [] := va_S.rf
  have hl := lv_entry [.ref a0] (n := 1) (Nat.le_of_ble_eq_true rfl)
  rw [lg_entry_eq]
  generalize (lg_sl [.ref a0] ++ List.replicate (1 - (lg_sl [.ref a0]).length) Slot.unset).toArray = ls at hl ⊢
  have hl : lv_has ls 1 [(0, .ref a0)] := hl
  rw [f_X7_firstError] at h
  refine lv_aload_n hx hb dX7_firstError_0 rfl (lv_at hl 0 rfl) ?_
  refine lv_iconst (v := 0) hx hb dX7_firstError_1 (by decide) ?_
  replace h := bd h
  obtain ⟨Z1, q2, h⟩ := h
  refine fp_6_5 hx hb hts hown hK hP hD hS wd_892 q2 dX7_firstError_2 (fun H locs hz9 hP hD hS => ?_)
  refine lv_aload_n hx hb dX7_firstError_5 rfl (lv_at hl 0 rfl) ?_
  replace h := bd h
  obtain ⟨_, q3, h⟩ := h
  replace h := bd h
  obtain ⟨z5, q4, h⟩ := h
  refine c_X7_rightUpTo ⟨hx, hb, hml, hown, hts⟩ hl.1 hK hP hD hA hS wd_1016 ⟨(Nat.le_of_ble_eq_true rfl), (Nat.le_of_ble_eq_true rfl)⟩ q4 q3 (Nat.le_of_ble_eq_true rfl) dX7_firstError_6 ⟨(Nat.le_of_ble_eq_true rfl), (Nat.le_of_ble_eq_true rfl)⟩ (fun H locs hP hD hS => ?_)
  cases h
  exact e_im hx hb hlocks hr hP hD hS (Nat.le_of_ble_eq_true rfl) (Nat.le_of_ble_eq_true rfl) dX7_firstError_9
set_option maxRecDepth 100000 in
theorem c_X7_firstError {p : Program} {l : Launch} {e : Env} {R : Room} {s : State} {m : MethodId} {args : Array Value} {below : List Frame} {meth : Method} {c : Code} {H : Heap} {locs : List Loc} {cells slots : Nat} {Q : State → Prop} {cc : ByteArray} {pc index nL : Nat} {ls : Array Slot} {rest : List Value} {D : va_G} {cy : Nat → ClassId} {A0 : Nat → Prop} {S : St} {H0 : Heap} {own : String} {u : Unit} {a0 : Nat} {r : Int32} {S1 : St}  (hF : CallFix p m c cc nL s args ALLW own) (hsz : ls.size = nL) (hK : va_K D vwCl (tyL cy) s) (hP : SP D cy S H) (hD : ∀ a, S a ≠ none → A0 a) (hA : ∀ q, H0.size ≤ q → A0 q) (hS : va_S A0 H0 H locs) (hk : Cond.methodLink own index yX7_firstError ∈ ALLW) (hR : rm_X7_firstError.frames + 1 ≤ R.frames ∧ 8 + (1 + 11) + rm_X7_firstError.locals ≤ R.locals) (h : f_X7_firstError S a0 = some (r, S1)) (hc : oO S a0 6 = some u) (hW : (rest.map fun v => v.category).sum ≤ 8) (hdg : decode cc pc = .ok (.invokevirtual index, 3)) (hf : cells + 0 ≤ R.cells ∧ slots + 0 ≤ R.slots)
    (kk : ∀ (H1 : Heap) (locs1 : List Loc), SP D cy S1 H1 → (∀ a, S1 a ≠ none → A0 a) → va_S A0 H0 H1 locs1 → W p l e R s m args below meth c H1 locs1 (cells + 0) (slots + 0) Q (F0 m (pc + 3) ls (.int r :: rest))) : W p l e R s m args below meth c H locs cells slots Q (F0 m pc ls (.ref a0 :: rest)) := by
  exact k_iVm (As := []) hF hsz (m_X7_firstError l D cy H.size S a0 r S1 h) (cwV_of (n := 0) hF.2.2.2.2 hk wd_1139 wd_1140 wd_75 wd_1141 rfl rfl (by decide +kernel) hR) rfl hK hP hD hA hS (ci := 6) hc rfl hW rfl hdg hf kk
/-- VowBlocksModel.undo()I -/
def f_X7_undo_L37 (y37_0 : Nat) : Nat → St → Int32 →  Option (St)
  | 0, _, _ => none
  | fu + 1, S37_, y37_1 =>
    if 260 ≤ y37_1 then
      some S37_
    else
      (gR S37_ y37_0 6 0).bind fun x17 =>
      (gR S37_ y37_0 6 2).bind fun x19 =>
      (gI S37_ y37_0 6 1).bind fun x21 =>
      (aI S37_ x19 ((260 * x21) + y37_1)).bind fun x23 =>
      (sI S37_ x17 y37_1 x23).bind fun Z25 =>
      f_X7_undo_L37 y37_0 fu Z25 (y37_1 + 1)
def f_X7_undo (S : St) (a0 : Nat) : Option (Int32 × St) :=
  (gI S a0 6 1).bind fun x1 =>
  (
    if x1 ≤ 0 then
      some 1
    else
      some 0
  : Option (Int32)).bind fun t3 =>
  (pI S a0 6 5 t3).bind fun Z5 =>
  (gI Z5 a0 6 5).bind fun x7 =>
  if x7 ≤ 0 then
    (gI Z5 a0 6 1).bind fun x10 =>
    (pI Z5 a0 6 1 (x10 - 1)).bind fun Z12 =>
    (f_X7_undo_L37 a0 FU Z12 0).bind fun z14 =>
    (gI z14 a0 6 1).bind fun x28 =>
    some (x28, z14)
  else
    some (0, Z5)
abbrev rm_X7_undo : Room := { frames := 0, cells := 0, slots := 0, locals := 0 }
set_option maxHeartbeats 4000000 in
set_option maxRecDepth 100000 in
theorem m_X7_undo (l : Launch) (D : va_G) (cy : Nat → ClassId) (sz : Nat) (S : St) (a0 : Nat) (r : Int32) (S1 : St) (h : f_X7_undo S a0 = some (r, S1)) : Met l yX7_undo (wsA yX7_undo cX7_undo 2 (some .int)) rm_X7_undo (va_Pc [.ref a0] (PN D cy S sz)) (va_Qi (fun r' (_ : Unit) => r' = r) (fun _ t => PoS D cy S1 (dm S sz) t) (dm S sz)) 0 0 (dm S sz) := by
  refine Met.ofW (cc := cX7_undo) (maxL := 2) (ret := (some .int)) (by decide) rfl ?_
  intro p e s m args below meth c s₁ B hml hv
  obtain ⟨rfl, hsz, hP, hK⟩ := hv
  have hx := B.exec
  have hb := B.bytes
  have hr := B.returns
  have hts9 := atoms_spec (ws := wsA yX7_undo cX7_undo 2 (some .int)) B.pre
  have hts : ∀ w ∈ ALLW, w.before _ s = true := fun w h => hts9 w (List.mem_cons_of_mem _ h)
  have hown : s.vm.findClass RX7 = some m.cls := findClass_of_methodNamed B.named
  have hlocks := B.notSynchronized
  subst hsz
  have hD : ∀ a, S a ≠ none → dm S s.heap.size a := fun a h => Or.inl h
  have hA : ∀ q : Nat, s.heap.size ≤ q → dm S s.heap.size q := fun q h => Or.inr h
  have hS : va_S (dm S s.heap.size) s.heap s.heap [] := va_S.rf
  have hl := lv_entry [.ref a0] (n := 2) (Nat.le_of_ble_eq_true rfl)
  rw [lg_entry_eq]
  generalize (lg_sl [.ref a0] ++ List.replicate (2 - (lg_sl [.ref a0]).length) Slot.unset).toArray = ls at hl ⊢
  have hl : lv_has ls 2 [(0, .ref a0)] := hl
  rw [f_X7_undo] at h
  refine lv_aload_n hx hb dX7_undo_0 rfl (lv_at hl 0 rfl) ?_
  refine lv_aload_n hx hb dX7_undo_1 rfl (lv_at hl 0 rfl) ?_
  replace h := bd h
  obtain ⟨x1, q2, h⟩ := h
  refine fg_6_1 hx hb hts hown hK hP wd_888 q2 dX7_undo_2 ?_
  replace h := bd h
  obtain ⟨t3, ht, h⟩ := h
  have K3 : ∀ (H : Heap) (locs : List Loc) (ls : Array Slot), SP D cy S H → (∀ a, S a ≠ none → (dm S s.heap.size) a) → va_S (dm S s.heap.size) s.heap H locs → lv_has ls 2 [(0, .ref a0)] → W p l e rm_X7_undo s m ([.ref a0] : List Value).toArray below meth c H locs 0 0 (MQ below (va_Qi (fun r' (_ : Unit) => r' = r) (fun _ t => PoS D cy S1 (dm S s.heap.size) t) (dm S s.heap.size)) ([.ref a0] : List Value).toArray s 0 0 (dm S s.heap.size)) (F0 m 13 ls [.int t3, .ref a0]) := by
    intro H locs ls hP hD hS hl
    replace h := bd h
    obtain ⟨Z5, q6, h⟩ := h
    refine fp_6_5 hx hb hts hown hK hP hD hS wd_892 q6 dX7_undo_13 (fun H locs hz9 hP hD hS => ?_)
    refine lv_aload_n hx hb dX7_undo_16 rfl (lv_at hl 0 rfl) ?_
    replace h := bd h
    obtain ⟨x7, q8, h⟩ := h
    refine fg_6_5 hx hb hts hown hK hP wd_892 q8 dX7_undo_17 ?_
    refine lv_if_le (tgt := 25) hx hb dX7_undo_20 (by decide) (fun c9 => ?_) (fun c9 => ?_)
    · replace h := ifp c9 h
      refine lv_aload_n hx hb dX7_undo_25 rfl (lv_at hl 0 rfl) ?_
      refine lv_dup hx hb dX7_undo_26 rfl ?_
      replace h := bd h
      obtain ⟨x10, q11, h⟩ := h
      refine fg_6_1 hx hb hts hown hK hP wd_888 q11 dX7_undo_27 ?_
      refine lv_iconst (v := 1) hx hb dX7_undo_30 (by decide) ?_
      refine lv_isub hx hb dX7_undo_31 ?_
      replace h := bd h
      obtain ⟨Z12, q13, h⟩ := h
      refine fp_6_1 hx hb hts hown hK hP hD hS wd_888 q13 dX7_undo_32 (fun H locs hz9 hP hD hS => ?_)
      refine lv_iconst (v := 0) hx hb dX7_undo_35 (by decide) ?_
      refine lv_istore_n (lv' := [(1, .int 0), (0, .ref a0)]) hx hb dX7_undo_36 rfl hl (by decide) rfl (fun ls hl => ?_)
      have L37 : ∀ (y37_0 : Nat) (fu : Nat) (S37_ : St) (y37_1 : Int32) (res : St), f_X7_undo_L37 y37_0 fu S37_ y37_1 = some res → ∀ (H : Heap) (locs : List Loc) (ls : Array Slot), SP D cy S37_ H → (∀ a, S37_ a ≠ none → (dm S s.heap.size) a) → va_S (dm S s.heap.size) s.heap H locs → lv_has ls 2 [(0, .ref y37_0), (1, .int y37_1)] → (∀ (H : Heap) (locs : List Loc) (ls : Array Slot), SP D cy res H → (∀ a, res a ≠ none → (dm S s.heap.size) a) → va_S (dm S s.heap.size) s.heap H locs → lv_has ls 2 [(0, .ref y37_0)] → W p l e rm_X7_undo s m ([.ref a0] : List Value).toArray below meth c H locs 0 0 (MQ below (va_Qi (fun r' (_ : Unit) => r' = r) (fun _ t => PoS D cy S1 (dm S s.heap.size) t) (dm S s.heap.size)) ([.ref a0] : List Value).toArray s 0 0 (dm S s.heap.size)) (F0 m 71 ls [])) → W p l e rm_X7_undo s m ([.ref a0] : List Value).toArray below meth c H locs 0 0 (MQ below (va_Qi (fun r' (_ : Unit) => r' = r) (fun _ t => PoS D cy S1 (dm S s.heap.size) t) (dm S s.heap.size)) ([.ref a0] : List Value).toArray s 0 0 (dm S s.heap.size)) (F0 m 37 ls []) := by
        intro y37_0 fu
        induction fu with
        | zero =>
          intro S37_ y37_1 res h
          rw [f_X7_undo_L37] at h
          cases h
        | succ fu ih =>
          intro S37_ y37_1 res h H locs ls hP hD hS hl hexit
          rw [f_X7_undo_L37] at h
          refine lv_iload_n hx hb dX7_undo_37 rfl (lv_at hl 1 rfl) ?_
          refine lv_sipush (v := 260) hx hb dX7_undo_38 (by decide) ?_
          refine lv_icmp_ge (tgt := 71) hx hb dX7_undo_41 (by decide) (fun c16 => ?_) (fun c16 => ?_)
          · replace h := ifp c16 h
            cases h
            exact hexit _ _ _ hP hD hS (lv_sub hl [0] rfl)
          · replace h := ifn c16 h
            refine lv_aload_n hx hb dX7_undo_44 rfl (lv_at hl 0 rfl) ?_
            replace h := bd h
            obtain ⟨x17, q18, h⟩ := h
            refine fg_6_0 hx hb hts hown hK hP wd_887 q18 dX7_undo_45 ?_
            refine lv_iload_n hx hb dX7_undo_48 rfl (lv_at hl 1 rfl) ?_
            refine lv_aload_n hx hb dX7_undo_49 rfl (lv_at hl 0 rfl) ?_
            replace h := bd h
            obtain ⟨x19, q20, h⟩ := h
            refine fg_6_2 hx hb hts hown hK hP wd_889 q20 dX7_undo_50 ?_
            refine lv_sipush (v := 260) hx hb dX7_undo_53 (by decide) ?_
            refine lv_aload_n hx hb dX7_undo_56 rfl (lv_at hl 0 rfl) ?_
            replace h := bd h
            obtain ⟨x21, q22, h⟩ := h
            refine fg_6_1 hx hb hts hown hK hP wd_888 q22 dX7_undo_57 ?_
            refine lv_imul hx hb dX7_undo_60 ?_
            refine lv_iload_n hx hb dX7_undo_61 rfl (lv_at hl 1 rfl) ?_
            refine lv_iadd hx hb dX7_undo_62 ?_
            replace h := bd h
            obtain ⟨x23, q24, h⟩ := h
            refine r_aI hx hb hK hP q24 dX7_undo_63 ?_
            replace h := bd h
            obtain ⟨Z25, q26, h⟩ := h
            refine r_sI hx hb hK hP hD hS q26 dX7_undo_64 (fun H locs hz9 hP hD hS => ?_)
            refine lv_iinc (v := (y37_1 + 1)) (lv' := [(1, .int (y37_1 + 1)), (0, .ref y37_0)]) hx hb dX7_undo_65 hl (k := 1) rfl rfl (by decide) rfl (fun ls hl => ?_)
            refine lv_goto (tgt := 37) hx hb dX7_undo_68 (by decide) ?_
            exact ih Z25 (y37_1 + 1) _ h _ _ _ hP hD hS (lv_sub hl [1, 0] rfl) hexit
      replace h := bd h
      obtain ⟨z14, q27, h⟩ := h
      refine L37 a0 FU Z12 0 z14 q27 _ _ _ hP hD hS (lv_sub hl [1, 0] rfl) (fun H locs ls hP hD hS hl => ?_)
      refine lv_aload_n hx hb dX7_undo_71 rfl (lv_at hl 0 rfl) ?_
      replace h := bd h
      obtain ⟨x28, q29, h⟩ := h
      refine fg_6_1 hx hb hts hown hK hP wd_888 q29 dX7_undo_72 ?_
      cases h
      exact e_im hx hb hlocks hr hP hD hS (Nat.le_of_ble_eq_true rfl) (Nat.le_of_ble_eq_true rfl) dX7_undo_75
    · replace h := ifn c9 h
      refine lv_iconst (v := 0) hx hb dX7_undo_23 (by decide) ?_
      cases h
      exact e_im hx hb hlocks hr hP hD hS (Nat.le_of_ble_eq_true rfl) (Nat.le_of_ble_eq_true rfl) dX7_undo_24
  replace h := ht
  refine lv_if_le (tgt := 12) hx hb dX7_undo_5 (by decide) (fun c4 => ?_) (fun c4 => ?_)
  · replace h := ifp c4 h
    refine lv_iconst (v := 1) hx hb dX7_undo_12 (by decide) ?_
    cases h
    exact K3 _ _ _ hP hD hS (lv_sub hl [0] rfl)
  · replace h := ifn c4 h
    refine lv_iconst (v := 0) hx hb dX7_undo_8 (by decide) ?_
    refine lv_goto (tgt := 13) hx hb dX7_undo_9 (by decide) ?_
    cases h
    exact K3 _ _ _ hP hD hS (lv_sub hl [0] rfl)
set_option maxRecDepth 100000 in
theorem c_X7_undo {p : Program} {l : Launch} {e : Env} {R : Room} {s : State} {m : MethodId} {args : Array Value} {below : List Frame} {meth : Method} {c : Code} {H : Heap} {locs : List Loc} {cells slots : Nat} {Q : State → Prop} {cc : ByteArray} {pc index nL : Nat} {ls : Array Slot} {rest : List Value} {D : va_G} {cy : Nat → ClassId} {A0 : Nat → Prop} {S : St} {H0 : Heap} {own : String} {u : Unit} {a0 : Nat} {r : Int32} {S1 : St}  (hF : CallFix p m c cc nL s args ALLW own) (hsz : ls.size = nL) (hK : va_K D vwCl (tyL cy) s) (hP : SP D cy S H) (hD : ∀ a, S a ≠ none → A0 a) (hA : ∀ q, H0.size ≤ q → A0 q) (hS : va_S A0 H0 H locs) (hk : Cond.methodLink own index yX7_undo ∈ ALLW) (hR : rm_X7_undo.frames + 1 ≤ R.frames ∧ 8 + (2 + 11) + rm_X7_undo.locals ≤ R.locals) (h : f_X7_undo S a0 = some (r, S1)) (hc : oO S a0 6 = some u) (hW : (rest.map fun v => v.category).sum ≤ 8) (hdg : decode cc pc = .ok (.invokevirtual index, 3)) (hf : cells + 0 ≤ R.cells ∧ slots + 0 ≤ R.slots)
    (kk : ∀ (H1 : Heap) (locs1 : List Loc), SP D cy S1 H1 → (∀ a, S1 a ≠ none → A0 a) → va_S A0 H0 H1 locs1 → W p l e R s m args below meth c H1 locs1 (cells + 0) (slots + 0) Q (F0 m (pc + 3) ls (.int r :: rest))) : W p l e R s m args below meth c H locs cells slots Q (F0 m pc ls (.ref a0 :: rest)) := by
  exact k_iVm (As := []) hF hsz (m_X7_undo l D cy H.size S a0 r S1 h) (cwV_of (n := 0) hF.2.2.2.2 hk wd_1143 wd_1144 wd_75 wd_1145 rfl rfl (by decide +kernel) hR) rfl hK hP hD hA hS (ci := 6) hc rfl hW rfl hdg hf kk
/-- VowBlocksModel.areAlike(II)Z -/
def f_X7_areAlike_L24 (S24_ : St) (y24_0 : Nat) (y24_1 : Int32) (y24_2 : Int32) : Nat → Int32 → Int32 →  Option (Int32)
  | 0, _, _ => none
  | fu + 1, y24_3, y24_4 =>
    (oO S24_ y24_0 6).bind fun _ =>
    (f_X7_of S24_ y24_0 y24_1 0).bind fun x13 =>
    if x13 ≤ y24_4 then
      some y24_3
    else
      (
        if y24_3 = 0 then
          some 0
        else
          (oO S24_ y24_0 6).bind fun _ =>
          (f_X7_of S24_ y24_0 y24_1 (8 + y24_4)).bind fun x19 =>
          (oO S24_ y24_0 6).bind fun _ =>
          (f_X7_of S24_ y24_0 y24_2 (8 + y24_4)).bind fun x22 =>
          if x19 = x22 then
            some 1
          else
            some 0
      : Option (Int32)).bind fun t15 =>
      f_X7_areAlike_L24 S24_ y24_0 y24_1 y24_2 fu t15 (y24_4 + 1)
def f_X7_areAlike (S : St) (a0 : Nat) (a1 : Int32) (a2 : Int32) : Option (Int32) :=
  (oO S a0 6).bind fun _ =>
  (f_X7_of S a0 a1 0).bind fun x3 =>
  (oO S a0 6).bind fun _ =>
  (f_X7_of S a0 a2 0).bind fun x6 =>
  (
    if x3 = x6 then
      some 1
    else
      some 0
  : Option (Int32)).bind fun t7 =>
  (f_X7_areAlike_L24 S a0 a1 a2 FU t7 0).bind fun z9 =>
  (zz z9).bind fun _ =>
  some z9
abbrev rm_X7_areAlike : Room := { frames := 1, cells := 0, slots := 0, locals := 22 }
set_option maxHeartbeats 4000000 in
set_option maxRecDepth 100000 in
theorem m_X7_areAlike (l : Launch) (D : va_G) (cy : Nat → ClassId) (S : St) (a0 : Nat) (a1 : Int32) (a2 : Int32) (r : Int32) (h : f_X7_areAlike S a0 a1 a2 = some r) : Met l yX7_areAlike (wsA yX7_areAlike cX7_areAlike 5 (some .boolean)) rm_X7_areAlike (va_Pc [.ref a0, .int a1, .int a2] (PS D cy S)) (va_Qi (fun r' (_ : Unit) => r' = r) (fun _ _ => True) noA) 0 0 noA := by
  refine Met.ofW (cc := cX7_areAlike) (maxL := 5) (ret := (some .boolean)) (by decide) rfl ?_
  intro p e s m args below meth c s₁ B hml hv
  obtain ⟨rfl, hP, hK⟩ := hv
  have hx := B.exec
  have hb := B.bytes
  have hr := B.returns
  have hts9 := atoms_spec (ws := wsA yX7_areAlike cX7_areAlike 5 (some .boolean)) B.pre
  have hts : ∀ w ∈ ALLW, w.before _ s = true := fun w h => hts9 w (List.mem_cons_of_mem _ h)
  have hown : s.vm.findClass RX7 = some m.cls := findClass_of_methodNamed B.named
  have hlocks := B.notSynchronized
  have hS : va_S noA s.heap s.heap [] := va_S.rf
  have hl := lv_entry [.ref a0, .int a1, .int a2] (n := 5) (Nat.le_of_ble_eq_true rfl)
  rw [lg_entry_eq]
  generalize (lg_sl [.ref a0, .int a1, .int a2] ++ List.replicate (5 - (lg_sl [.ref a0, .int a1, .int a2]).length) Slot.unset).toArray = ls at hl ⊢
  have hl : lv_has ls 5 [(0, .ref a0), (1, .int a1), (2, .int a2)] := hl
  rw [f_X7_areAlike] at h
  refine lv_aload_n hx hb dX7_areAlike_0 rfl (lv_at hl 0 rfl) ?_
  refine lv_iload_n hx hb dX7_areAlike_1 rfl (lv_at hl 1 rfl) ?_
  refine lv_iconst (v := 0) hx hb dX7_areAlike_2 (by decide) ?_
  replace h := bd h
  obtain ⟨_, q1, h⟩ := h
  replace h := bd h
  obtain ⟨x3, q2, h⟩ := h
  refine c_X7_of ⟨hx, hb, hml, hown, hts⟩ hl.1 hK hP hS wd_961 ⟨(Nat.le_of_ble_eq_true rfl), (Nat.le_of_ble_eq_true rfl)⟩ q2 q1 (Nat.le_of_ble_eq_true rfl) dX7_areAlike_3 ⟨(Nat.le_of_ble_eq_true rfl), (Nat.le_of_ble_eq_true rfl)⟩ (fun H locs hP hS => ?_)
  refine lv_aload_n hx hb dX7_areAlike_6 rfl (lv_at hl 0 rfl) ?_
  refine lv_iload_n hx hb dX7_areAlike_7 rfl (lv_at hl 2 rfl) ?_
  refine lv_iconst (v := 0) hx hb dX7_areAlike_8 (by decide) ?_
  replace h := bd h
  obtain ⟨_, q4, h⟩ := h
  replace h := bd h
  obtain ⟨x6, q5, h⟩ := h
  refine c_X7_of ⟨hx, hb, hml, hown, hts⟩ hl.1 hK hP hS wd_961 ⟨(Nat.le_of_ble_eq_true rfl), (Nat.le_of_ble_eq_true rfl)⟩ q5 q4 (Nat.le_of_ble_eq_true rfl) dX7_areAlike_9 ⟨(Nat.le_of_ble_eq_true rfl), (Nat.le_of_ble_eq_true rfl)⟩ (fun H locs hP hS => ?_)
  replace h := bd h
  obtain ⟨t7, ht, h⟩ := h
  have K7 : ∀ (H : Heap) (locs : List Loc) (ls : Array Slot), SP D cy S H → va_S noA s.heap H locs → lv_has ls 5 [(0, .ref a0), (1, .int a1), (2, .int a2)] → W p l e rm_X7_areAlike s m ([.ref a0, .int a1, .int a2] : List Value).toArray below meth c H locs 0 0 (MQ below (va_Qi (fun r' (_ : Unit) => r' = r) (fun _ _ => True) noA) ([.ref a0, .int a1, .int a2] : List Value).toArray s 0 0 noA) (F0 m 20 ls [.int t7]) := by
    intro H locs ls hP hS hl
    refine lv_istore_n (lv' := [(3, .int t7), (0, .ref a0), (1, .int a1), (2, .int a2)]) hx hb dX7_areAlike_20 rfl hl (by decide) rfl (fun ls hl => ?_)
    refine lv_iconst (v := 0) hx hb dX7_areAlike_21 (by decide) ?_
    refine lv_istore (lv' := [(4, .int 0), (3, .int t7), (0, .ref a0), (1, .int a1), (2, .int a2)]) hx hb dX7_areAlike_22 hl (by decide) rfl (fun ls hl => ?_)
    have L24 : ∀ (S24_ : St) (y24_0 : Nat) (y24_1 : Int32) (y24_2 : Int32) (fu : Nat) (y24_3 : Int32) (y24_4 : Int32) (res : Int32), f_X7_areAlike_L24 S24_ y24_0 y24_1 y24_2 fu y24_3 y24_4 = some res → ∀ (H : Heap) (locs : List Loc) (ls : Array Slot), SP D cy S24_ H → va_S noA s.heap H locs → lv_has ls 5 [(0, .ref y24_0), (1, .int y24_1), (2, .int y24_2), (3, .int y24_3), (4, .int y24_4)] → (∀ (H : Heap) (locs : List Loc) (ls : Array Slot), SP D cy S24_ H → va_S noA s.heap H locs → lv_has ls 5 [(3, .int res)] → W p l e rm_X7_areAlike s m ([.ref a0, .int a1, .int a2] : List Value).toArray below meth c H locs 0 0 (MQ below (va_Qi (fun r' (_ : Unit) => r' = r) (fun _ _ => True) noA) ([.ref a0, .int a1, .int a2] : List Value).toArray s 0 0 noA) (F0 m 74 ls [])) → W p l e rm_X7_areAlike s m ([.ref a0, .int a1, .int a2] : List Value).toArray below meth c H locs 0 0 (MQ below (va_Qi (fun r' (_ : Unit) => r' = r) (fun _ _ => True) noA) ([.ref a0, .int a1, .int a2] : List Value).toArray s 0 0 noA) (F0 m 24 ls []) := by
      intro S24_ y24_0 y24_1 y24_2 fu
      induction fu with
      | zero =>
        intro y24_3 y24_4 res h
        rw [f_X7_areAlike_L24] at h
        cases h
      | succ fu ih =>
        intro y24_3 y24_4 res h H locs ls hP hS hl hexit
        rw [f_X7_areAlike_L24] at h
        refine lv_iload hx hb dX7_areAlike_24 (lv_at hl 4 rfl) ?_
        refine lv_aload_n hx hb dX7_areAlike_26 rfl (lv_at hl 0 rfl) ?_
        refine lv_iload_n hx hb dX7_areAlike_27 rfl (lv_at hl 1 rfl) ?_
        refine lv_iconst (v := 0) hx hb dX7_areAlike_28 (by decide) ?_
        replace h := bd h
        obtain ⟨_, q11, h⟩ := h
        replace h := bd h
        obtain ⟨x13, q12, h⟩ := h
        refine c_X7_of ⟨hx, hb, hml, hown, hts⟩ hl.1 hK hP hS wd_961 ⟨(Nat.le_of_ble_eq_true rfl), (Nat.le_of_ble_eq_true rfl)⟩ q12 q11 (Nat.le_of_ble_eq_true rfl) dX7_areAlike_29 ⟨(Nat.le_of_ble_eq_true rfl), (Nat.le_of_ble_eq_true rfl)⟩ (fun H locs hP hS => ?_)
        refine lv_icmp_ge (tgt := 74) hx hb dX7_areAlike_32 (by decide) (fun c14 => ?_) (fun c14 => ?_)
        · replace h := ifp c14 h
          cases h
          exact hexit _ _ _ hP hS (lv_sub hl [3] rfl)
        · replace h := ifn c14 h
          refine lv_iload_n hx hb dX7_areAlike_35 rfl (lv_at hl 3 rfl) ?_
          replace h := bd h
          obtain ⟨t15, ht, h⟩ := h
          have K15 : ∀ (H : Heap) (locs : List Loc) (ls : Array Slot), SP D cy S24_ H → va_S noA s.heap H locs → lv_has ls 5 [(0, .ref y24_0), (1, .int y24_1), (2, .int y24_2), (4, .int y24_4)] → W p l e rm_X7_areAlike s m ([.ref a0, .int a1, .int a2] : List Value).toArray below meth c H locs 0 0 (MQ below (va_Qi (fun r' (_ : Unit) => r' = r) (fun _ _ => True) noA) ([.ref a0, .int a1, .int a2] : List Value).toArray s 0 0 noA) (F0 m 67 ls [.int t15]) := by
            intro H locs ls hP hS hl
            refine lv_istore_n (lv' := [(3, .int t15), (0, .ref y24_0), (1, .int y24_1), (2, .int y24_2), (4, .int y24_4)]) hx hb dX7_areAlike_67 rfl hl (by decide) rfl (fun ls hl => ?_)
            refine lv_iinc (v := (y24_4 + 1)) (lv' := [(4, .int (y24_4 + 1)), (3, .int t15), (0, .ref y24_0), (1, .int y24_1), (2, .int y24_2)]) hx hb dX7_areAlike_68 hl (k := 4) rfl rfl (by decide) rfl (fun ls hl => ?_)
            refine lv_goto (tgt := 24) hx hb dX7_areAlike_71 (by decide) ?_
            exact ih t15 (y24_4 + 1) _ h _ _ _ hP hS (lv_sub hl [2, 3, 4, 1, 0] rfl) hexit
          replace h := ht
          refine lv_if_eq (tgt := 66) hx hb dX7_areAlike_36 (by decide) (fun c16 => ?_) (fun c16 => ?_)
          · replace h := ifp c16 h
            refine lv_iconst (v := 0) hx hb dX7_areAlike_66 (by decide) ?_
            cases h
            exact K15 _ _ _ hP hS (lv_sub hl [0, 1, 2, 4] rfl)
          · replace h := ifn c16 h
            refine lv_aload_n hx hb dX7_areAlike_39 rfl (lv_at hl 0 rfl) ?_
            refine lv_iload_n hx hb dX7_areAlike_40 rfl (lv_at hl 1 rfl) ?_
            refine lv_bipush (v := 8) hx hb dX7_areAlike_41 (by decide) ?_
            refine lv_iload hx hb dX7_areAlike_43 (lv_at hl 4 rfl) ?_
            refine lv_iadd hx hb dX7_areAlike_45 ?_
            replace h := bd h
            obtain ⟨_, q17, h⟩ := h
            replace h := bd h
            obtain ⟨x19, q18, h⟩ := h
            refine c_X7_of ⟨hx, hb, hml, hown, hts⟩ hl.1 hK hP hS wd_961 ⟨(Nat.le_of_ble_eq_true rfl), (Nat.le_of_ble_eq_true rfl)⟩ q18 q17 (Nat.le_of_ble_eq_true rfl) dX7_areAlike_46 ⟨(Nat.le_of_ble_eq_true rfl), (Nat.le_of_ble_eq_true rfl)⟩ (fun H locs hP hS => ?_)
            refine lv_aload_n hx hb dX7_areAlike_49 rfl (lv_at hl 0 rfl) ?_
            refine lv_iload_n hx hb dX7_areAlike_50 rfl (lv_at hl 2 rfl) ?_
            refine lv_bipush (v := 8) hx hb dX7_areAlike_51 (by decide) ?_
            refine lv_iload hx hb dX7_areAlike_53 (lv_at hl 4 rfl) ?_
            refine lv_iadd hx hb dX7_areAlike_55 ?_
            replace h := bd h
            obtain ⟨_, q20, h⟩ := h
            replace h := bd h
            obtain ⟨x22, q21, h⟩ := h
            refine c_X7_of ⟨hx, hb, hml, hown, hts⟩ hl.1 hK hP hS wd_961 ⟨(Nat.le_of_ble_eq_true rfl), (Nat.le_of_ble_eq_true rfl)⟩ q21 q20 (Nat.le_of_ble_eq_true rfl) dX7_areAlike_56 ⟨(Nat.le_of_ble_eq_true rfl), (Nat.le_of_ble_eq_true rfl)⟩ (fun H locs hP hS => ?_)
            refine lv_icmp_ne (tgt := 66) hx hb dX7_areAlike_59 (by decide) (fun c23 => ?_) (fun c23 => ?_)
            · replace h := ifn c23 h
              refine lv_iconst (v := 0) hx hb dX7_areAlike_66 (by decide) ?_
              cases h
              exact K15 _ _ _ hP hS (lv_sub hl [0, 1, 2, 4] rfl)
            · replace h := ifp c23 h
              refine lv_iconst (v := 1) hx hb dX7_areAlike_62 (by decide) ?_
              refine lv_goto (tgt := 67) hx hb dX7_areAlike_63 (by decide) ?_
              cases h
              exact K15 _ _ _ hP hS (lv_sub hl [0, 1, 2, 4] rfl)
    replace h := bd h
    obtain ⟨z9, q24, h⟩ := h
    refine L24 S a0 a1 a2 FU t7 0 z9 q24 _ _ _ hP hS (lv_sub hl [2, 3, 4, 1, 0] rfl) (fun H locs ls hP hS hl => ?_)
    refine lv_iload_n hx hb dX7_areAlike_74 rfl (lv_at hl 0 rfl) ?_
    replace h := bd h
    obtain ⟨_, q25, h⟩ := h
    cases h
    exact e_zp hx hb hlocks (zz_spec q25) hr hS (Nat.le_of_ble_eq_true rfl) (Nat.le_of_ble_eq_true rfl) dX7_areAlike_75
  replace h := ht
  refine lv_icmp_ne (tgt := 19) hx hb dX7_areAlike_12 (by decide) (fun c8 => ?_) (fun c8 => ?_)
  · replace h := ifn c8 h
    refine lv_iconst (v := 0) hx hb dX7_areAlike_19 (by decide) ?_
    cases h
    exact K7 _ _ _ hP hS (lv_sub hl [0, 1, 2] rfl)
  · replace h := ifp c8 h
    refine lv_iconst (v := 1) hx hb dX7_areAlike_15 (by decide) ?_
    refine lv_goto (tgt := 20) hx hb dX7_areAlike_16 (by decide) ?_
    cases h
    exact K7 _ _ _ hP hS (lv_sub hl [0, 1, 2] rfl)
set_option maxRecDepth 100000 in
theorem c_X7_areAlike {p : Program} {l : Launch} {e : Env} {R : Room} {s : State} {m : MethodId} {args : Array Value} {below : List Frame} {meth : Method} {c : Code} {H : Heap} {locs : List Loc} {cells slots : Nat} {Q : State → Prop} {cc : ByteArray} {pc index nL : Nat} {ls : Array Slot} {rest : List Value} {D : va_G} {cy : Nat → ClassId} {A0 : Nat → Prop} {S : St} {H0 : Heap} {own : String} {u : Unit} {a0 : Nat} {a1 : Int32} {a2 : Int32} {r : Int32}  (hF : CallFix p m c cc nL s args ALLW own) (hsz : ls.size = nL) (hK : va_K D vwCl (tyL cy) s) (hP : SP D cy S H) (hS : va_S A0 H0 H locs) (hk : Cond.methodLink own index yX7_areAlike ∈ ALLW) (hR : rm_X7_areAlike.frames + 1 ≤ R.frames ∧ 8 + (5 + 11) + rm_X7_areAlike.locals ≤ R.locals) (h : f_X7_areAlike S a0 a1 a2 = some r) (hc : oO S a0 6 = some u) (hW : (rest.map fun v => v.category).sum ≤ 8) (hdg : decode cc pc = .ok (.invokevirtual index, 3)) (hf : cells + 0 ≤ R.cells ∧ slots + 0 ≤ R.slots)
    (kk : ∀ (H1 : Heap) (locs1 : List Loc), SP D cy S H1 → va_S A0 H0 H1 locs1 → W p l e R s m args below meth c H1 locs1 (cells + 0) (slots + 0) Q (F0 m (pc + 3) ls (.int r :: rest))) : W p l e R s m args below meth c H locs cells slots Q (F0 m pc ls (.int a2 :: .int a1 :: .ref a0 :: rest)) := by
  exact k_iVp (As := [.int a1, .int a2]) hF hsz (m_X7_areAlike l D cy S a0 a1 a2 r h) (cwV_of (n := 2) hF.2.2.2.2 hk wd_1160 wd_55 wd_75 wd_1161 rfl rfl (by decide +kernel) hR) rfl hK hP hS (ci := 6) hc rfl hW rfl hdg hf kk
/-- VowBlocksModel.firstAlike(I)I -/
def f_X7_firstAlike_L2 (S2_ : St) (y2_0 : Nat) (y2_1 : Int32) : Nat → Int32 →  Option (Int32)
  | 0, _ => none
  | fu + 1, y2_2 =>
    (oO S2_ y2_0 6).bind fun _ =>
    (f_X7_areAlike S2_ y2_0 y2_2 y2_1).bind fun x5 =>
    if x5 = 0 then
      f_X7_firstAlike_L2 S2_ y2_0 y2_1 fu (y2_2 + 1)
    else
      some y2_2
def f_X7_firstAlike (S : St) (a0 : Nat) (a1 : Int32) : Option (Int32) :=
  (f_X7_firstAlike_L2 S a0 a1 FU 0).bind fun z1 =>
  some z1
abbrev rm_X7_firstAlike : Room := { frames := 2, cells := 0, slots := 0, locals := 46 }
set_option maxHeartbeats 4000000 in
set_option maxRecDepth 100000 in
theorem m_X7_firstAlike (l : Launch) (D : va_G) (cy : Nat → ClassId) (S : St) (a0 : Nat) (a1 : Int32) (r : Int32) (h : f_X7_firstAlike S a0 a1 = some r) : Met l yX7_firstAlike (wsA yX7_firstAlike cX7_firstAlike 3 (some .int)) rm_X7_firstAlike (va_Pc [.ref a0, .int a1] (PS D cy S)) (va_Qi (fun r' (_ : Unit) => r' = r) (fun _ _ => True) noA) 0 0 noA := by
  refine Met.ofW (cc := cX7_firstAlike) (maxL := 3) (ret := (some .int)) (by decide) rfl ?_
  intro p e s m args below meth c s₁ B hml hv
  obtain ⟨rfl, hP, hK⟩ := hv
  have hx := B.exec
  have hb := B.bytes
  have hr := B.returns
  have hts9 := atoms_spec (ws := wsA yX7_firstAlike cX7_firstAlike 3 (some .int)) B.pre
  have hts : ∀ w ∈ ALLW, w.before _ s = true := fun w h => hts9 w (List.mem_cons_of_mem _ h)
  have hown : s.vm.findClass RX7 = some m.cls := findClass_of_methodNamed B.named
  have hlocks := B.notSynchronized
  have hS : va_S noA s.heap s.heap [] := va_S.rf
  have hl := lv_entry [.ref a0, .int a1] (n := 3) (Nat.le_of_ble_eq_true rfl)
  rw [lg_entry_eq]
  generalize (lg_sl [.ref a0, .int a1] ++ List.replicate (3 - (lg_sl [.ref a0, .int a1]).length) Slot.unset).toArray = ls at hl ⊢
  have hl : lv_has ls 3 [(0, .ref a0), (1, .int a1)] := hl
  rw [f_X7_firstAlike] at h
  refine lv_iconst (v := 0) hx hb dX7_firstAlike_0 (by decide) ?_
  refine lv_istore_n (lv' := [(2, .int 0), (0, .ref a0), (1, .int a1)]) hx hb dX7_firstAlike_1 rfl hl (by decide) rfl (fun ls hl => ?_)
  have L2 : ∀ (S2_ : St) (y2_0 : Nat) (y2_1 : Int32) (fu : Nat) (y2_2 : Int32) (res : Int32), f_X7_firstAlike_L2 S2_ y2_0 y2_1 fu y2_2 = some res → ∀ (H : Heap) (locs : List Loc) (ls : Array Slot), SP D cy S2_ H → va_S noA s.heap H locs → lv_has ls 3 [(0, .ref y2_0), (1, .int y2_1), (2, .int y2_2)] → (∀ (H : Heap) (locs : List Loc) (ls : Array Slot), SP D cy S2_ H → va_S noA s.heap H locs → lv_has ls 3 [(2, .int res)] → W p l e rm_X7_firstAlike s m ([.ref a0, .int a1] : List Value).toArray below meth c H locs 0 0 (MQ below (va_Qi (fun r' (_ : Unit) => r' = r) (fun _ _ => True) noA) ([.ref a0, .int a1] : List Value).toArray s 0 0 noA) (F0 m 17 ls [])) → W p l e rm_X7_firstAlike s m ([.ref a0, .int a1] : List Value).toArray below meth c H locs 0 0 (MQ below (va_Qi (fun r' (_ : Unit) => r' = r) (fun _ _ => True) noA) ([.ref a0, .int a1] : List Value).toArray s 0 0 noA) (F0 m 2 ls []) := by
    intro S2_ y2_0 y2_1 fu
    induction fu with
    | zero =>
      intro y2_2 res h
      rw [f_X7_firstAlike_L2] at h
      cases h
    | succ fu ih =>
      intro y2_2 res h H locs ls hP hS hl hexit
      rw [f_X7_firstAlike_L2] at h
      refine lv_aload_n hx hb dX7_firstAlike_2 rfl (lv_at hl 0 rfl) ?_
      refine lv_iload_n hx hb dX7_firstAlike_3 rfl (lv_at hl 2 rfl) ?_
      refine lv_iload_n hx hb dX7_firstAlike_4 rfl (lv_at hl 1 rfl) ?_
      replace h := bd h
      obtain ⟨_, q3, h⟩ := h
      replace h := bd h
      obtain ⟨x5, q4, h⟩ := h
      refine c_X7_areAlike ⟨hx, hb, hml, hown, hts⟩ hl.1 hK hP hS wd_1158 ⟨(Nat.le_of_ble_eq_true rfl), (Nat.le_of_ble_eq_true rfl)⟩ q4 q3 (Nat.le_of_ble_eq_true rfl) dX7_firstAlike_5 ⟨(Nat.le_of_ble_eq_true rfl), (Nat.le_of_ble_eq_true rfl)⟩ (fun H locs hP hS => ?_)
      refine lv_if_ne (tgt := 17) hx hb dX7_firstAlike_8 (by decide) (fun c6 => ?_) (fun c6 => ?_)
      · replace h := ifn c6 h
        cases h
        exact hexit _ _ _ hP hS (lv_sub hl [2] rfl)
      · replace h := ifp c6 h
        refine lv_iinc (v := (y2_2 + 1)) (lv' := [(2, .int (y2_2 + 1)), (0, .ref y2_0), (1, .int y2_1)]) hx hb dX7_firstAlike_11 hl (k := 2) rfl rfl (by decide) rfl (fun ls hl => ?_)
        refine lv_goto (tgt := 2) hx hb dX7_firstAlike_14 (by decide) ?_
        exact ih (y2_2 + 1) _ h _ _ _ hP hS (lv_sub hl [1, 2, 0] rfl) hexit
  replace h := bd h
  obtain ⟨z1, q7, h⟩ := h
  refine L2 S a0 a1 FU 0 z1 q7 _ _ _ hP hS (lv_sub hl [1, 2, 0] rfl) (fun H locs ls hP hS hl => ?_)
  refine lv_iload_n hx hb dX7_firstAlike_17 rfl (lv_at hl 0 rfl) ?_
  cases h
  exact e_ip hx hb hlocks hr hS (Nat.le_of_ble_eq_true rfl) (Nat.le_of_ble_eq_true rfl) dX7_firstAlike_18
set_option maxRecDepth 100000 in
theorem c_X7_firstAlike {p : Program} {l : Launch} {e : Env} {R : Room} {s : State} {m : MethodId} {args : Array Value} {below : List Frame} {meth : Method} {c : Code} {H : Heap} {locs : List Loc} {cells slots : Nat} {Q : State → Prop} {cc : ByteArray} {pc index nL : Nat} {ls : Array Slot} {rest : List Value} {D : va_G} {cy : Nat → ClassId} {A0 : Nat → Prop} {S : St} {H0 : Heap} {own : String} {u : Unit} {a0 : Nat} {a1 : Int32} {r : Int32}  (hF : CallFix p m c cc nL s args ALLW own) (hsz : ls.size = nL) (hK : va_K D vwCl (tyL cy) s) (hP : SP D cy S H) (hS : va_S A0 H0 H locs) (hk : Cond.methodLink own index yX7_firstAlike ∈ ALLW) (hR : rm_X7_firstAlike.frames + 1 ≤ R.frames ∧ 8 + (3 + 11) + rm_X7_firstAlike.locals ≤ R.locals) (h : f_X7_firstAlike S a0 a1 = some r) (hc : oO S a0 6 = some u) (hW : (rest.map fun v => v.category).sum ≤ 8) (hdg : decode cc pc = .ok (.invokevirtual index, 3)) (hf : cells + 0 ≤ R.cells ∧ slots + 0 ≤ R.slots)
    (kk : ∀ (H1 : Heap) (locs1 : List Loc), SP D cy S H1 → va_S A0 H0 H1 locs1 → W p l e R s m args below meth c H1 locs1 (cells + 0) (slots + 0) Q (F0 m (pc + 3) ls (.int r :: rest))) : W p l e R s m args below meth c H locs cells slots Q (F0 m pc ls (.int a1 :: .ref a0 :: rest)) := by
  exact k_iVp (As := [.int a1]) hF hsz (m_X7_firstAlike l D cy S a0 a1 r h) (cwV_of (n := 1) hF.2.2.2.2 hk wd_1156 wd_54 wd_75 wd_1157 rfl rfl (by decide +kernel) hR) rfl hK hP hS (ci := 6) hc rfl hW rfl hdg hf kk
/-- VowBlocksModel.blockNow(II)I -/
def f_X7_blockNow (S : St) (a0 : Nat) (a1 : Int32) (a2 : Int32) : Option (Int32 × St) :=
  (oO S a0 6).bind fun _ =>
  (f_X7_lay S a0 a1).bind fun z3 =>
  if a2 = 0 then
    (oO z3 a0 6).bind fun _ =>
    (f_X7_of z3 a0 a1 a2).bind fun x21 =>
    some (x21, z3)
  else
    if a2 = 1 then
      (oO z3 a0 6).bind fun _ =>
      (f_X7_of z3 a0 a1 a2).bind fun x24 =>
      some (x24, z3)
    else
      if a2 = 2 then
        (oO z3 a0 6).bind fun _ =>
        (f_X7_of z3 a0 a1 1).bind fun x27 =>
        (oO z3 a0 6).bind fun _ =>
        (f_X7_costBy z3 a0 x27).bind fun x30 =>
        some (x30, z3)
      else
        if a2 = 3 then
          (oO z3 a0 6).bind fun _ =>
          (f_X7_of z3 a0 a1 2).bind fun x33 =>
          some (x33, z3)
        else
          if a2 = 4 then
            (oO z3 a0 6).bind fun _ =>
            (f_X7_of z3 a0 a1 3).bind fun x36 =>
            some (x36, z3)
          else
            if a2 = 5 then
              (oO z3 a0 6).bind fun _ =>
              (f_X7_of z3 a0 a1 4).bind fun x39 =>
              some (x39, z3)
            else
              if a2 = 6 then
                (oO z3 a0 6).bind fun _ =>
                (f_X7_of z3 a0 a1 5).bind fun x42 =>
                some (x42, z3)
              else
                if a2 = 7 then
                  (oO z3 a0 6).bind fun _ =>
                  (f_X7_of z3 a0 a1 6).bind fun x45 =>
                  some (x45, z3)
                else
                  if a2 = 8 then
                    (oO z3 a0 6).bind fun _ =>
                    (f_X7_bestCode z3 a0).bind fun x48 =>
                    some (x48, z3)
                  else
                    if a2 = 9 then
                      (oO z3 a0 6).bind fun _ =>
                      (f_X7_bestCode z3 a0).bind fun x51 =>
                      (oO z3 a0 6).bind fun _ =>
                      (f_X7_costBy z3 a0 x51).bind fun x54 =>
                      some (x54, z3)
                    else
                      if a2 = 10 then
                        (oO z3 a0 6).bind fun _ =>
                        (f_X7_firstAlike z3 a0 a1).bind fun x57 =>
                        some (x57, z3)
                      else
                        (oO z3 a0 6).bind fun _ =>
                        (f_X7_of z3 a0 a1 7).bind fun x17 =>
                        some (x17, z3)
abbrev rm_X7_blockNow : Room := { frames := 5, cells := 0, slots := 0, locals := 109 }
set_option maxHeartbeats 4000000 in
set_option maxRecDepth 100000 in
theorem m_X7_blockNow (l : Launch) (D : va_G) (cy : Nat → ClassId) (sz : Nat) (S : St) (a0 : Nat) (a1 : Int32) (a2 : Int32) (r : Int32) (S1 : St) (h : f_X7_blockNow S a0 a1 a2 = some (r, S1)) : Met l yX7_blockNow (wsA yX7_blockNow cX7_blockNow 3 (some .int)) rm_X7_blockNow (va_Pc [.ref a0, .int a1, .int a2] (PN D cy S sz)) (va_Qi (fun r' (_ : Unit) => r' = r) (fun _ t => PoS D cy S1 (dm S sz) t) (dm S sz)) 0 0 (dm S sz) := by
  refine Met.ofW (cc := cX7_blockNow) (maxL := 3) (ret := (some .int)) (by decide) rfl ?_
  intro p e s m args below meth c s₁ B hml hv
  obtain ⟨rfl, hsz, hP, hK⟩ := hv
  have hx := B.exec
  have hb := B.bytes
  have hr := B.returns
  have hts9 := atoms_spec (ws := wsA yX7_blockNow cX7_blockNow 3 (some .int)) B.pre
  have hts : ∀ w ∈ ALLW, w.before _ s = true := fun w h => hts9 w (List.mem_cons_of_mem _ h)
  have hown : s.vm.findClass RX7 = some m.cls := findClass_of_methodNamed B.named
  have hlocks := B.notSynchronized
  subst hsz
  have hD : ∀ a, S a ≠ none → dm S s.heap.size a := fun a h => Or.inl h
  have hA : ∀ q : Nat, s.heap.size ≤ q → dm S s.heap.size q := fun q h => Or.inr h
  have hS : va_S (dm S s.heap.size) s.heap s.heap [] := va_S.rf
  have hl := lv_entry [.ref a0, .int a1, .int a2] (n := 3) (Nat.le_of_ble_eq_true rfl)
  rw [lg_entry_eq]
  generalize (lg_sl [.ref a0, .int a1, .int a2] ++ List.replicate (3 - (lg_sl [.ref a0, .int a1, .int a2]).length) Slot.unset).toArray = ls at hl ⊢
  have hl : lv_has ls 3 [(0, .ref a0), (1, .int a1), (2, .int a2)] := hl
  rw [f_X7_blockNow] at h
  refine lv_aload_n hx hb dX7_blockNow_0 rfl (lv_at hl 0 rfl) ?_
  refine lv_iload_n hx hb dX7_blockNow_1 rfl (lv_at hl 1 rfl) ?_
  replace h := bd h
  obtain ⟨_, q1, h⟩ := h
  replace h := bd h
  obtain ⟨z3, q2, h⟩ := h
  refine c_X7_lay ⟨hx, hb, hml, hown, hts⟩ hl.1 hK hP hD hA hS wd_957 ⟨(Nat.le_of_ble_eq_true rfl), (Nat.le_of_ble_eq_true rfl)⟩ q2 q1 (Nat.le_of_ble_eq_true rfl) dX7_blockNow_2 ⟨(Nat.le_of_ble_eq_true rfl), (Nat.le_of_ble_eq_true rfl)⟩ (fun H locs hP hD hS => ?_)
  refine lv_iload_n hx hb dX7_blockNow_5 rfl (lv_at hl 2 rfl) ?_
  by_cases c4 : a2 = 0
  · replace h := ifp c4 h
    refine lv_tableIn (off := 58) (tgt := 64) hx hb dX7_blockNow_6 (by rw [c4]; decide) (by rw [c4]; decide) (by rw [c4]; rfl) (by decide) ?_
    refine lv_aload_n hx hb dX7_blockNow_64 rfl (lv_at hl 0 rfl) ?_
    refine lv_iload_n hx hb dX7_blockNow_65 rfl (lv_at hl 1 rfl) ?_
    refine lv_iload_n hx hb dX7_blockNow_66 rfl (lv_at hl 2 rfl) ?_
    replace h := bd h
    obtain ⟨_, q19, h⟩ := h
    replace h := bd h
    obtain ⟨x21, q20, h⟩ := h
    refine c_X7_of ⟨hx, hb, hml, hown, hts⟩ hl.1 hK hP hS wd_961 ⟨(Nat.le_of_ble_eq_true rfl), (Nat.le_of_ble_eq_true rfl)⟩ q20 q19 (Nat.le_of_ble_eq_true rfl) dX7_blockNow_67 ⟨(Nat.le_of_ble_eq_true rfl), (Nat.le_of_ble_eq_true rfl)⟩ (fun H locs hP hS => ?_)
    cases h
    exact e_im hx hb hlocks hr hP hD hS (Nat.le_of_ble_eq_true rfl) (Nat.le_of_ble_eq_true rfl) dX7_blockNow_70
  · replace h := ifn c4 h
    by_cases c5 : a2 = 1
    · replace h := ifp c5 h
      refine lv_tableIn (off := 58) (tgt := 64) hx hb dX7_blockNow_6 (by rw [c5]; decide) (by rw [c5]; decide) (by rw [c5]; rfl) (by decide) ?_
      refine lv_aload_n hx hb dX7_blockNow_64 rfl (lv_at hl 0 rfl) ?_
      refine lv_iload_n hx hb dX7_blockNow_65 rfl (lv_at hl 1 rfl) ?_
      refine lv_iload_n hx hb dX7_blockNow_66 rfl (lv_at hl 2 rfl) ?_
      replace h := bd h
      obtain ⟨_, q22, h⟩ := h
      replace h := bd h
      obtain ⟨x24, q23, h⟩ := h
      refine c_X7_of ⟨hx, hb, hml, hown, hts⟩ hl.1 hK hP hS wd_961 ⟨(Nat.le_of_ble_eq_true rfl), (Nat.le_of_ble_eq_true rfl)⟩ q23 q22 (Nat.le_of_ble_eq_true rfl) dX7_blockNow_67 ⟨(Nat.le_of_ble_eq_true rfl), (Nat.le_of_ble_eq_true rfl)⟩ (fun H locs hP hS => ?_)
      cases h
      exact e_im hx hb hlocks hr hP hD hS (Nat.le_of_ble_eq_true rfl) (Nat.le_of_ble_eq_true rfl) dX7_blockNow_70
    · replace h := ifn c5 h
      by_cases c6 : a2 = 2
      · replace h := ifp c6 h
        refine lv_tableIn (off := 65) (tgt := 71) hx hb dX7_blockNow_6 (by rw [c6]; decide) (by rw [c6]; decide) (by rw [c6]; rfl) (by decide) ?_
        refine lv_aload_n hx hb dX7_blockNow_71 rfl (lv_at hl 0 rfl) ?_
        refine lv_aload_n hx hb dX7_blockNow_72 rfl (lv_at hl 0 rfl) ?_
        refine lv_iload_n hx hb dX7_blockNow_73 rfl (lv_at hl 1 rfl) ?_
        refine lv_iconst (v := 1) hx hb dX7_blockNow_74 (by decide) ?_
        replace h := bd h
        obtain ⟨_, q25, h⟩ := h
        replace h := bd h
        obtain ⟨x27, q26, h⟩ := h
        refine c_X7_of ⟨hx, hb, hml, hown, hts⟩ hl.1 hK hP hS wd_961 ⟨(Nat.le_of_ble_eq_true rfl), (Nat.le_of_ble_eq_true rfl)⟩ q26 q25 (Nat.le_of_ble_eq_true rfl) dX7_blockNow_75 ⟨(Nat.le_of_ble_eq_true rfl), (Nat.le_of_ble_eq_true rfl)⟩ (fun H locs hP hS => ?_)
        replace h := bd h
        obtain ⟨_, q28, h⟩ := h
        replace h := bd h
        obtain ⟨x30, q29, h⟩ := h
        refine c_X7_costBy ⟨hx, hb, hml, hown, hts⟩ hl.1 hK hP hS wd_969 ⟨(Nat.le_of_ble_eq_true rfl), (Nat.le_of_ble_eq_true rfl)⟩ q29 q28 (Nat.le_of_ble_eq_true rfl) dX7_blockNow_78 ⟨(Nat.le_of_ble_eq_true rfl), (Nat.le_of_ble_eq_true rfl)⟩ (fun H locs hP hS => ?_)
        cases h
        exact e_im hx hb hlocks hr hP hD hS (Nat.le_of_ble_eq_true rfl) (Nat.le_of_ble_eq_true rfl) dX7_blockNow_81
      · replace h := ifn c6 h
        by_cases c7 : a2 = 3
        · replace h := ifp c7 h
          refine lv_tableIn (off := 76) (tgt := 82) hx hb dX7_blockNow_6 (by rw [c7]; decide) (by rw [c7]; decide) (by rw [c7]; rfl) (by decide) ?_
          refine lv_aload_n hx hb dX7_blockNow_82 rfl (lv_at hl 0 rfl) ?_
          refine lv_iload_n hx hb dX7_blockNow_83 rfl (lv_at hl 1 rfl) ?_
          refine lv_iconst (v := 2) hx hb dX7_blockNow_84 (by decide) ?_
          replace h := bd h
          obtain ⟨_, q31, h⟩ := h
          replace h := bd h
          obtain ⟨x33, q32, h⟩ := h
          refine c_X7_of ⟨hx, hb, hml, hown, hts⟩ hl.1 hK hP hS wd_961 ⟨(Nat.le_of_ble_eq_true rfl), (Nat.le_of_ble_eq_true rfl)⟩ q32 q31 (Nat.le_of_ble_eq_true rfl) dX7_blockNow_85 ⟨(Nat.le_of_ble_eq_true rfl), (Nat.le_of_ble_eq_true rfl)⟩ (fun H locs hP hS => ?_)
          cases h
          exact e_im hx hb hlocks hr hP hD hS (Nat.le_of_ble_eq_true rfl) (Nat.le_of_ble_eq_true rfl) dX7_blockNow_88
        · replace h := ifn c7 h
          by_cases c8 : a2 = 4
          · replace h := ifp c8 h
            refine lv_tableIn (off := 83) (tgt := 89) hx hb dX7_blockNow_6 (by rw [c8]; decide) (by rw [c8]; decide) (by rw [c8]; rfl) (by decide) ?_
            refine lv_aload_n hx hb dX7_blockNow_89 rfl (lv_at hl 0 rfl) ?_
            refine lv_iload_n hx hb dX7_blockNow_90 rfl (lv_at hl 1 rfl) ?_
            refine lv_iconst (v := 3) hx hb dX7_blockNow_91 (by decide) ?_
            replace h := bd h
            obtain ⟨_, q34, h⟩ := h
            replace h := bd h
            obtain ⟨x36, q35, h⟩ := h
            refine c_X7_of ⟨hx, hb, hml, hown, hts⟩ hl.1 hK hP hS wd_961 ⟨(Nat.le_of_ble_eq_true rfl), (Nat.le_of_ble_eq_true rfl)⟩ q35 q34 (Nat.le_of_ble_eq_true rfl) dX7_blockNow_92 ⟨(Nat.le_of_ble_eq_true rfl), (Nat.le_of_ble_eq_true rfl)⟩ (fun H locs hP hS => ?_)
            cases h
            exact e_im hx hb hlocks hr hP hD hS (Nat.le_of_ble_eq_true rfl) (Nat.le_of_ble_eq_true rfl) dX7_blockNow_95
          · replace h := ifn c8 h
            by_cases c9 : a2 = 5
            · replace h := ifp c9 h
              refine lv_tableIn (off := 90) (tgt := 96) hx hb dX7_blockNow_6 (by rw [c9]; decide) (by rw [c9]; decide) (by rw [c9]; rfl) (by decide) ?_
              refine lv_aload_n hx hb dX7_blockNow_96 rfl (lv_at hl 0 rfl) ?_
              refine lv_iload_n hx hb dX7_blockNow_97 rfl (lv_at hl 1 rfl) ?_
              refine lv_iconst (v := 4) hx hb dX7_blockNow_98 (by decide) ?_
              replace h := bd h
              obtain ⟨_, q37, h⟩ := h
              replace h := bd h
              obtain ⟨x39, q38, h⟩ := h
              refine c_X7_of ⟨hx, hb, hml, hown, hts⟩ hl.1 hK hP hS wd_961 ⟨(Nat.le_of_ble_eq_true rfl), (Nat.le_of_ble_eq_true rfl)⟩ q38 q37 (Nat.le_of_ble_eq_true rfl) dX7_blockNow_99 ⟨(Nat.le_of_ble_eq_true rfl), (Nat.le_of_ble_eq_true rfl)⟩ (fun H locs hP hS => ?_)
              cases h
              exact e_im hx hb hlocks hr hP hD hS (Nat.le_of_ble_eq_true rfl) (Nat.le_of_ble_eq_true rfl) dX7_blockNow_102
            · replace h := ifn c9 h
              by_cases c10 : a2 = 6
              · replace h := ifp c10 h
                refine lv_tableIn (off := 97) (tgt := 103) hx hb dX7_blockNow_6 (by rw [c10]; decide) (by rw [c10]; decide) (by rw [c10]; rfl) (by decide) ?_
                refine lv_aload_n hx hb dX7_blockNow_103 rfl (lv_at hl 0 rfl) ?_
                refine lv_iload_n hx hb dX7_blockNow_104 rfl (lv_at hl 1 rfl) ?_
                refine lv_iconst (v := 5) hx hb dX7_blockNow_105 (by decide) ?_
                replace h := bd h
                obtain ⟨_, q40, h⟩ := h
                replace h := bd h
                obtain ⟨x42, q41, h⟩ := h
                refine c_X7_of ⟨hx, hb, hml, hown, hts⟩ hl.1 hK hP hS wd_961 ⟨(Nat.le_of_ble_eq_true rfl), (Nat.le_of_ble_eq_true rfl)⟩ q41 q40 (Nat.le_of_ble_eq_true rfl) dX7_blockNow_106 ⟨(Nat.le_of_ble_eq_true rfl), (Nat.le_of_ble_eq_true rfl)⟩ (fun H locs hP hS => ?_)
                cases h
                exact e_im hx hb hlocks hr hP hD hS (Nat.le_of_ble_eq_true rfl) (Nat.le_of_ble_eq_true rfl) dX7_blockNow_109
              · replace h := ifn c10 h
                by_cases c11 : a2 = 7
                · replace h := ifp c11 h
                  refine lv_tableIn (off := 104) (tgt := 110) hx hb dX7_blockNow_6 (by rw [c11]; decide) (by rw [c11]; decide) (by rw [c11]; rfl) (by decide) ?_
                  refine lv_aload_n hx hb dX7_blockNow_110 rfl (lv_at hl 0 rfl) ?_
                  refine lv_iload_n hx hb dX7_blockNow_111 rfl (lv_at hl 1 rfl) ?_
                  refine lv_bipush (v := 6) hx hb dX7_blockNow_112 (by decide) ?_
                  replace h := bd h
                  obtain ⟨_, q43, h⟩ := h
                  replace h := bd h
                  obtain ⟨x45, q44, h⟩ := h
                  refine c_X7_of ⟨hx, hb, hml, hown, hts⟩ hl.1 hK hP hS wd_961 ⟨(Nat.le_of_ble_eq_true rfl), (Nat.le_of_ble_eq_true rfl)⟩ q44 q43 (Nat.le_of_ble_eq_true rfl) dX7_blockNow_114 ⟨(Nat.le_of_ble_eq_true rfl), (Nat.le_of_ble_eq_true rfl)⟩ (fun H locs hP hS => ?_)
                  cases h
                  exact e_im hx hb hlocks hr hP hD hS (Nat.le_of_ble_eq_true rfl) (Nat.le_of_ble_eq_true rfl) dX7_blockNow_117
                · replace h := ifn c11 h
                  by_cases c12 : a2 = 8
                  · replace h := ifp c12 h
                    refine lv_tableIn (off := 112) (tgt := 118) hx hb dX7_blockNow_6 (by rw [c12]; decide) (by rw [c12]; decide) (by rw [c12]; rfl) (by decide) ?_
                    refine lv_aload_n hx hb dX7_blockNow_118 rfl (lv_at hl 0 rfl) ?_
                    replace h := bd h
                    obtain ⟨_, q46, h⟩ := h
                    replace h := bd h
                    obtain ⟨x48, q47, h⟩ := h
                    refine c_X7_bestCode ⟨hx, hb, hml, hown, hts⟩ hl.1 hK hP hS wd_965 ⟨(Nat.le_of_ble_eq_true rfl), (Nat.le_of_ble_eq_true rfl)⟩ q47 q46 (Nat.le_of_ble_eq_true rfl) dX7_blockNow_119 ⟨(Nat.le_of_ble_eq_true rfl), (Nat.le_of_ble_eq_true rfl)⟩ (fun H locs hP hS => ?_)
                    cases h
                    exact e_im hx hb hlocks hr hP hD hS (Nat.le_of_ble_eq_true rfl) (Nat.le_of_ble_eq_true rfl) dX7_blockNow_122
                  · replace h := ifn c12 h
                    by_cases c13 : a2 = 9
                    · replace h := ifp c13 h
                      refine lv_tableIn (off := 117) (tgt := 123) hx hb dX7_blockNow_6 (by rw [c13]; decide) (by rw [c13]; decide) (by rw [c13]; rfl) (by decide) ?_
                      refine lv_aload_n hx hb dX7_blockNow_123 rfl (lv_at hl 0 rfl) ?_
                      refine lv_aload_n hx hb dX7_blockNow_124 rfl (lv_at hl 0 rfl) ?_
                      replace h := bd h
                      obtain ⟨_, q49, h⟩ := h
                      replace h := bd h
                      obtain ⟨x51, q50, h⟩ := h
                      refine c_X7_bestCode ⟨hx, hb, hml, hown, hts⟩ hl.1 hK hP hS wd_965 ⟨(Nat.le_of_ble_eq_true rfl), (Nat.le_of_ble_eq_true rfl)⟩ q50 q49 (Nat.le_of_ble_eq_true rfl) dX7_blockNow_125 ⟨(Nat.le_of_ble_eq_true rfl), (Nat.le_of_ble_eq_true rfl)⟩ (fun H locs hP hS => ?_)
                      replace h := bd h
                      obtain ⟨_, q52, h⟩ := h
                      replace h := bd h
                      obtain ⟨x54, q53, h⟩ := h
                      refine c_X7_costBy ⟨hx, hb, hml, hown, hts⟩ hl.1 hK hP hS wd_969 ⟨(Nat.le_of_ble_eq_true rfl), (Nat.le_of_ble_eq_true rfl)⟩ q53 q52 (Nat.le_of_ble_eq_true rfl) dX7_blockNow_128 ⟨(Nat.le_of_ble_eq_true rfl), (Nat.le_of_ble_eq_true rfl)⟩ (fun H locs hP hS => ?_)
                      cases h
                      exact e_im hx hb hlocks hr hP hD hS (Nat.le_of_ble_eq_true rfl) (Nat.le_of_ble_eq_true rfl) dX7_blockNow_131
                    · replace h := ifn c13 h
                      by_cases c14 : a2 = 10
                      · replace h := ifp c14 h
                        refine lv_tableIn (off := 126) (tgt := 132) hx hb dX7_blockNow_6 (by rw [c14]; decide) (by rw [c14]; decide) (by rw [c14]; rfl) (by decide) ?_
                        refine lv_aload_n hx hb dX7_blockNow_132 rfl (lv_at hl 0 rfl) ?_
                        refine lv_iload_n hx hb dX7_blockNow_133 rfl (lv_at hl 1 rfl) ?_
                        replace h := bd h
                        obtain ⟨_, q55, h⟩ := h
                        replace h := bd h
                        obtain ⟨x57, q56, h⟩ := h
                        refine c_X7_firstAlike ⟨hx, hb, hml, hown, hts⟩ hl.1 hK hP hS wd_1154 ⟨(Nat.le_of_ble_eq_true rfl), (Nat.le_of_ble_eq_true rfl)⟩ q56 q55 (Nat.le_of_ble_eq_true rfl) dX7_blockNow_134 ⟨(Nat.le_of_ble_eq_true rfl), (Nat.le_of_ble_eq_true rfl)⟩ (fun H locs hP hS => ?_)
                        cases h
                        exact e_im hx hb hlocks hr hP hD hS (Nat.le_of_ble_eq_true rfl) (Nat.le_of_ble_eq_true rfl) dX7_blockNow_137
                      · replace h := ifn c14 h
                        refine lv_tableOut (tgt := 138) hx hb dX7_blockNow_6 (tsw_out (x := a2) 0 11 (fun k hk => by match k, hk with | 0, _ => exact c4 | 1, _ => exact c5 | 2, _ => exact c6 | 3, _ => exact c7 | 4, _ => exact c8 | 5, _ => exact c9 | 6, _ => exact c10 | 7, _ => exact c11 | 8, _ => exact c12 | 9, _ => exact c13 | 10, _ => exact c14) (by decide)) (by decide) ?_
                        refine lv_aload_n hx hb dX7_blockNow_138 rfl (lv_at hl 0 rfl) ?_
                        refine lv_iload_n hx hb dX7_blockNow_139 rfl (lv_at hl 1 rfl) ?_
                        refine lv_bipush (v := 7) hx hb dX7_blockNow_140 (by decide) ?_
                        replace h := bd h
                        obtain ⟨_, q15, h⟩ := h
                        replace h := bd h
                        obtain ⟨x17, q16, h⟩ := h
                        refine c_X7_of ⟨hx, hb, hml, hown, hts⟩ hl.1 hK hP hS wd_961 ⟨(Nat.le_of_ble_eq_true rfl), (Nat.le_of_ble_eq_true rfl)⟩ q16 q15 (Nat.le_of_ble_eq_true rfl) dX7_blockNow_142 ⟨(Nat.le_of_ble_eq_true rfl), (Nat.le_of_ble_eq_true rfl)⟩ (fun H locs hP hS => ?_)
                        cases h
                        exact e_im hx hb hlocks hr hP hD hS (Nat.le_of_ble_eq_true rfl) (Nat.le_of_ble_eq_true rfl) dX7_blockNow_145
set_option maxRecDepth 100000 in
theorem c_X7_blockNow {p : Program} {l : Launch} {e : Env} {R : Room} {s : State} {m : MethodId} {args : Array Value} {below : List Frame} {meth : Method} {c : Code} {H : Heap} {locs : List Loc} {cells slots : Nat} {Q : State → Prop} {cc : ByteArray} {pc index nL : Nat} {ls : Array Slot} {rest : List Value} {D : va_G} {cy : Nat → ClassId} {A0 : Nat → Prop} {S : St} {H0 : Heap} {own : String} {u : Unit} {a0 : Nat} {a1 : Int32} {a2 : Int32} {r : Int32} {S1 : St}  (hF : CallFix p m c cc nL s args ALLW own) (hsz : ls.size = nL) (hK : va_K D vwCl (tyL cy) s) (hP : SP D cy S H) (hD : ∀ a, S a ≠ none → A0 a) (hA : ∀ q, H0.size ≤ q → A0 q) (hS : va_S A0 H0 H locs) (hk : Cond.methodLink own index yX7_blockNow ∈ ALLW) (hR : rm_X7_blockNow.frames + 1 ≤ R.frames ∧ 8 + (3 + 11) + rm_X7_blockNow.locals ≤ R.locals) (h : f_X7_blockNow S a0 a1 a2 = some (r, S1)) (hc : oO S a0 6 = some u) (hW : (rest.map fun v => v.category).sum ≤ 8) (hdg : decode cc pc = .ok (.invokevirtual index, 3)) (hf : cells + 0 ≤ R.cells ∧ slots + 0 ≤ R.slots)
    (kk : ∀ (H1 : Heap) (locs1 : List Loc), SP D cy S1 H1 → (∀ a, S1 a ≠ none → A0 a) → va_S A0 H0 H1 locs1 → W p l e R s m args below meth c H1 locs1 (cells + 0) (slots + 0) Q (F0 m (pc + 3) ls (.int r :: rest))) : W p l e R s m args below meth c H locs cells slots Q (F0 m pc ls (.int a2 :: .int a1 :: .ref a0 :: rest)) := by
  exact k_iVm (As := [.int a1, .int a2]) hF hsz (m_X7_blockNow l D cy H.size S a0 a1 a2 r S1 h) (cwV_of (n := 2) hF.2.2.2.2 hk wd_1152 wd_53 wd_75 wd_1153 rfl rfl (by decide +kernel) hR) rfl hK hP hD hA hS (ci := 6) hc rfl hW rfl hdg hf kk
/-- VowBlocksModel.block(II)I -/
def f_X7_block (S : St) (a0 : Nat) (a1 : Int32) (a2 : Int32) : Option (Int32 × St) :=
  (oO S a0 6).bind fun _ =>
  (f_X7_isBlock S a0 a1).bind fun x3 =>
  (
    if x3 = 0 then
      some 1
    else
      (f_X7_within a2 0 11).bind fun x7 =>
      if x7 = 0 then
        some 2
      else
        some 0
  : Option (Int32)).bind fun t4 =>
  (pI S a0 6 5 t4).bind fun Z9 =>
  (gI Z9 a0 6 5).bind fun x11 =>
  (
    if x11 ≤ 0 then
      (oO Z9 a0 6).bind fun _ =>
      (f_X7_blockNow Z9 a0 a1 a2).bind fun z17 =>
      some (z17.1, z17.2)
    else
      some (0, Z9)
  : Option (Int32 × St)).bind fun t13 =>
  some (t13.1, t13.2)
abbrev rm_X7_block : Room := { frames := 6, cells := 0, slots := 0, locals := 131 }
set_option maxHeartbeats 4000000 in
set_option maxRecDepth 100000 in
theorem m_X7_block (l : Launch) (D : va_G) (cy : Nat → ClassId) (sz : Nat) (S : St) (a0 : Nat) (a1 : Int32) (a2 : Int32) (r : Int32) (S1 : St) (h : f_X7_block S a0 a1 a2 = some (r, S1)) : Met l yX7_block (wsA yX7_block cX7_block 3 (some .int)) rm_X7_block (va_Pc [.ref a0, .int a1, .int a2] (PN D cy S sz)) (va_Qi (fun r' (_ : Unit) => r' = r) (fun _ t => PoS D cy S1 (dm S sz) t) (dm S sz)) 0 0 (dm S sz) := by
  refine Met.ofW (cc := cX7_block) (maxL := 3) (ret := (some .int)) (by decide) rfl ?_
  intro p e s m args below meth c s₁ B hml hv
  obtain ⟨rfl, hsz, hP, hK⟩ := hv
  have hx := B.exec
  have hb := B.bytes
  have hr := B.returns
  have hts9 := atoms_spec (ws := wsA yX7_block cX7_block 3 (some .int)) B.pre
  have hts : ∀ w ∈ ALLW, w.before _ s = true := fun w h => hts9 w (List.mem_cons_of_mem _ h)
  have hown : s.vm.findClass RX7 = some m.cls := findClass_of_methodNamed B.named
  have hlocks := B.notSynchronized
  subst hsz
  have hD : ∀ a, S a ≠ none → dm S s.heap.size a := fun a h => Or.inl h
  have hA : ∀ q : Nat, s.heap.size ≤ q → dm S s.heap.size q := fun q h => Or.inr h
  have hS : va_S (dm S s.heap.size) s.heap s.heap [] := va_S.rf
  have hl := lv_entry [.ref a0, .int a1, .int a2] (n := 3) (Nat.le_of_ble_eq_true rfl)
  rw [lg_entry_eq]
  generalize (lg_sl [.ref a0, .int a1, .int a2] ++ List.replicate (3 - (lg_sl [.ref a0, .int a1, .int a2]).length) Slot.unset).toArray = ls at hl ⊢
  have hl : lv_has ls 3 [(0, .ref a0), (1, .int a1), (2, .int a2)] := hl
  rw [f_X7_block] at h
  refine lv_aload_n hx hb dX7_block_0 rfl (lv_at hl 0 rfl) ?_
  refine lv_aload_n hx hb dX7_block_1 rfl (lv_at hl 0 rfl) ?_
  refine lv_iload_n hx hb dX7_block_2 rfl (lv_at hl 1 rfl) ?_
  replace h := bd h
  obtain ⟨_, q1, h⟩ := h
  replace h := bd h
  obtain ⟨x3, q2, h⟩ := h
  refine c_X7_isBlock ⟨hx, hb, hml, hown, hts⟩ hl.1 hK hP hS wd_1044 ⟨(Nat.le_of_ble_eq_true rfl), (Nat.le_of_ble_eq_true rfl)⟩ q2 q1 (Nat.le_of_ble_eq_true rfl) dX7_block_3 ⟨(Nat.le_of_ble_eq_true rfl), (Nat.le_of_ble_eq_true rfl)⟩ (fun H locs hP hS => ?_)
  replace h := bd h
  obtain ⟨t4, ht, h⟩ := h
  have K4 : ∀ (H : Heap) (locs : List Loc) (ls : Array Slot), SP D cy S H → (∀ a, S a ≠ none → (dm S s.heap.size) a) → va_S (dm S s.heap.size) s.heap H locs → lv_has ls 3 [(0, .ref a0), (1, .int a1), (2, .int a2)] → W p l e rm_X7_block s m ([.ref a0, .int a1, .int a2] : List Value).toArray below meth c H locs 0 0 (MQ below (va_Qi (fun r' (_ : Unit) => r' = r) (fun _ t => PoS D cy S1 (dm S s.heap.size) t) (dm S s.heap.size)) ([.ref a0, .int a1, .int a2] : List Value).toArray s 0 0 (dm S s.heap.size)) (F0 m 28 ls [.int t4, .ref a0]) := by
    intro H locs ls hP hD hS hl
    replace h := bd h
    obtain ⟨Z9, q10, h⟩ := h
    refine fp_6_5 hx hb hts hown hK hP hD hS wd_892 q10 dX7_block_28 (fun H locs hz9 hP hD hS => ?_)
    refine lv_aload_n hx hb dX7_block_31 rfl (lv_at hl 0 rfl) ?_
    replace h := bd h
    obtain ⟨x11, q12, h⟩ := h
    refine fg_6_5 hx hb hts hown hK hP wd_892 q12 dX7_block_32 ?_
    replace h := bd h
    obtain ⟨t13, ht, h⟩ := h
    have K13 : ∀ (H : Heap) (locs : List Loc) (ls : Array Slot), SP D cy t13.2 H → (∀ a, t13.2 a ≠ none → (dm S s.heap.size) a) → va_S (dm S s.heap.size) s.heap H locs → lv_has ls 3 [] → W p l e rm_X7_block s m ([.ref a0, .int a1, .int a2] : List Value).toArray below meth c H locs 0 0 (MQ below (va_Qi (fun r' (_ : Unit) => r' = r) (fun _ t => PoS D cy S1 (dm S s.heap.size) t) (dm S s.heap.size)) ([.ref a0, .int a1, .int a2] : List Value).toArray s 0 0 (dm S s.heap.size)) (F0 m 48 ls [.int t13.1]) := by
      intro H locs ls hP hD hS hl
      cases h
      exact e_im hx hb hlocks hr hP hD hS (Nat.le_of_ble_eq_true rfl) (Nat.le_of_ble_eq_true rfl) dX7_block_48
    replace h := ht
    refine lv_if_le (tgt := 42) hx hb dX7_block_35 (by decide) (fun c14 => ?_) (fun c14 => ?_)
    · replace h := ifp c14 h
      refine lv_aload_n hx hb dX7_block_42 rfl (lv_at hl 0 rfl) ?_
      refine lv_iload_n hx hb dX7_block_43 rfl (lv_at hl 1 rfl) ?_
      refine lv_iload_n hx hb dX7_block_44 rfl (lv_at hl 2 rfl) ?_
      replace h := bd h
      obtain ⟨_, q15, h⟩ := h
      replace h := bd h
      obtain ⟨z17, q16, h⟩ := h
      refine c_X7_blockNow ⟨hx, hb, hml, hown, hts⟩ hl.1 hK hP hD hA hS wd_1150 ⟨(Nat.le_of_ble_eq_true rfl), (Nat.le_of_ble_eq_true rfl)⟩ q16 q15 (Nat.le_of_ble_eq_true rfl) dX7_block_45 ⟨(Nat.le_of_ble_eq_true rfl), (Nat.le_of_ble_eq_true rfl)⟩ (fun H locs hP hD hS => ?_)
      cases h
      exact K13 _ _ _ hP hD hS (lv_sub hl [] rfl)
    · replace h := ifn c14 h
      refine lv_iconst (v := 0) hx hb dX7_block_38 (by decide) ?_
      refine lv_goto (tgt := 48) hx hb dX7_block_39 (by decide) ?_
      cases h
      exact K13 _ _ _ hP hD hS (lv_sub hl [] rfl)
  replace h := ht
  refine lv_if_ne (tgt := 13) hx hb dX7_block_6 (by decide) (fun c5 => ?_) (fun c5 => ?_)
  · replace h := ifn c5 h
    refine lv_iload_n hx hb dX7_block_13 rfl (lv_at hl 2 rfl) ?_
    refine lv_iconst (v := 0) hx hb dX7_block_14 (by decide) ?_
    refine lv_bipush (v := 11) hx hb dX7_block_15 (by decide) ?_
    replace h := bd h
    obtain ⟨x7, q6, h⟩ := h
    refine c_X7_within ⟨hx, hb, hml, hown, hts⟩ hl.1 hK hP hS wd_938 ⟨(Nat.le_of_ble_eq_true rfl), (Nat.le_of_ble_eq_true rfl)⟩ q6 (Nat.le_of_ble_eq_true rfl) dX7_block_17 ⟨(Nat.le_of_ble_eq_true rfl), (Nat.le_of_ble_eq_true rfl)⟩ (fun H locs hP hS => ?_)
    refine lv_if_eq (tgt := 27) hx hb dX7_block_20 (by decide) (fun c8 => ?_) (fun c8 => ?_)
    · replace h := ifp c8 h
      refine lv_iconst (v := 2) hx hb dX7_block_27 (by decide) ?_
      cases h
      exact K4 _ _ _ hP hD hS (lv_sub hl [0, 1, 2] rfl)
    · replace h := ifn c8 h
      refine lv_iconst (v := 0) hx hb dX7_block_23 (by decide) ?_
      refine lv_goto (tgt := 28) hx hb dX7_block_24 (by decide) ?_
      cases h
      exact K4 _ _ _ hP hD hS (lv_sub hl [0, 1, 2] rfl)
  · replace h := ifp c5 h
    refine lv_iconst (v := 1) hx hb dX7_block_9 (by decide) ?_
    refine lv_goto (tgt := 28) hx hb dX7_block_10 (by decide) ?_
    cases h
    exact K4 _ _ _ hP hD hS (lv_sub hl [0, 1, 2] rfl)
set_option maxRecDepth 100000 in
theorem c_X7_block {p : Program} {l : Launch} {e : Env} {R : Room} {s : State} {m : MethodId} {args : Array Value} {below : List Frame} {meth : Method} {c : Code} {H : Heap} {locs : List Loc} {cells slots : Nat} {Q : State → Prop} {cc : ByteArray} {pc index nL : Nat} {ls : Array Slot} {rest : List Value} {D : va_G} {cy : Nat → ClassId} {A0 : Nat → Prop} {S : St} {H0 : Heap} {own : String} {u : Unit} {a0 : Nat} {a1 : Int32} {a2 : Int32} {r : Int32} {S1 : St}  (hF : CallFix p m c cc nL s args ALLW own) (hsz : ls.size = nL) (hK : va_K D vwCl (tyL cy) s) (hP : SP D cy S H) (hD : ∀ a, S a ≠ none → A0 a) (hA : ∀ q, H0.size ≤ q → A0 q) (hS : va_S A0 H0 H locs) (hk : Cond.methodLink own index yX7_block ∈ ALLW) (hR : rm_X7_block.frames + 1 ≤ R.frames ∧ 8 + (3 + 11) + rm_X7_block.locals ≤ R.locals) (h : f_X7_block S a0 a1 a2 = some (r, S1)) (hc : oO S a0 6 = some u) (hW : (rest.map fun v => v.category).sum ≤ 8) (hdg : decode cc pc = .ok (.invokevirtual index, 3)) (hf : cells + 0 ≤ R.cells ∧ slots + 0 ≤ R.slots)
    (kk : ∀ (H1 : Heap) (locs1 : List Loc), SP D cy S1 H1 → (∀ a, S1 a ≠ none → A0 a) → va_S A0 H0 H1 locs1 → W p l e R s m args below meth c H1 locs1 (cells + 0) (slots + 0) Q (F0 m (pc + 3) ls (.int r :: rest))) : W p l e R s m args below meth c H locs cells slots Q (F0 m pc ls (.int a2 :: .int a1 :: .ref a0 :: rest)) := by
  exact k_iVm (As := [.int a1, .int a2]) hF hsz (m_X7_block l D cy H.size S a0 a1 a2 r S1 h) (cwV_of (n := 2) hF.2.2.2.2 hk wd_1147 wd_1148 wd_75 wd_1149 rfl rfl (by decide +kernel) hR) rfl hK hP hD hA hS (ci := 6) hc rfl hW rfl hdg hf kk
/-- VowBlocksModel.value(II)I -/
def f_X7_value (S : St) (a0 : Nat) (a1 : Int32) (a2 : Int32) : Option (Int32 × St) :=
  (oO S a0 6).bind fun _ =>
  (f_X7_isPlace S a0 a1 a2).bind fun x3 =>
  (
    if x3 = 0 then
      some 1
    else
      some 0
  : Option (Int32)).bind fun t4 =>
  (pI S a0 6 5 t4).bind fun Z6 =>
  (gI Z6 a0 6 5).bind fun x8 =>
  (
    if x8 ≤ 0 then
      (oO Z6 a0 6).bind fun _ =>
      (f_X7_of Z6 a0 a1 (8 + a2)).bind fun x14 =>
      some x14
    else
      some 0
  : Option (Int32)).bind fun t10 =>
  some (t10, Z6)
abbrev rm_X7_value : Room := { frames := 3, cells := 0, slots := 0, locals := 65 }
set_option maxHeartbeats 4000000 in
set_option maxRecDepth 100000 in
theorem m_X7_value (l : Launch) (D : va_G) (cy : Nat → ClassId) (sz : Nat) (S : St) (a0 : Nat) (a1 : Int32) (a2 : Int32) (r : Int32) (S1 : St) (h : f_X7_value S a0 a1 a2 = some (r, S1)) : Met l yX7_value (wsA yX7_value cX7_value 3 (some .int)) rm_X7_value (va_Pc [.ref a0, .int a1, .int a2] (PN D cy S sz)) (va_Qi (fun r' (_ : Unit) => r' = r) (fun _ t => PoS D cy S1 (dm S sz) t) (dm S sz)) 0 0 (dm S sz) := by
  refine Met.ofW (cc := cX7_value) (maxL := 3) (ret := (some .int)) (by decide) rfl ?_
  intro p e s m args below meth c s₁ B hml hv
  obtain ⟨rfl, hsz, hP, hK⟩ := hv
  have hx := B.exec
  have hb := B.bytes
  have hr := B.returns
  have hts9 := atoms_spec (ws := wsA yX7_value cX7_value 3 (some .int)) B.pre
  have hts : ∀ w ∈ ALLW, w.before _ s = true := fun w h => hts9 w (List.mem_cons_of_mem _ h)
  have hown : s.vm.findClass RX7 = some m.cls := findClass_of_methodNamed B.named
  have hlocks := B.notSynchronized
  subst hsz
  have hD : ∀ a, S a ≠ none → dm S s.heap.size a := fun a h => Or.inl h
  have hA : ∀ q : Nat, s.heap.size ≤ q → dm S s.heap.size q := fun q h => Or.inr h
  have hS : va_S (dm S s.heap.size) s.heap s.heap [] := va_S.rf
  have hl := lv_entry [.ref a0, .int a1, .int a2] (n := 3) (Nat.le_of_ble_eq_true rfl)
  rw [lg_entry_eq]
  generalize (lg_sl [.ref a0, .int a1, .int a2] ++ List.replicate (3 - (lg_sl [.ref a0, .int a1, .int a2]).length) Slot.unset).toArray = ls at hl ⊢
  have hl : lv_has ls 3 [(0, .ref a0), (1, .int a1), (2, .int a2)] := hl
  rw [f_X7_value] at h
  refine lv_aload_n hx hb dX7_value_0 rfl (lv_at hl 0 rfl) ?_
  refine lv_aload_n hx hb dX7_value_1 rfl (lv_at hl 0 rfl) ?_
  refine lv_iload_n hx hb dX7_value_2 rfl (lv_at hl 1 rfl) ?_
  refine lv_iload_n hx hb dX7_value_3 rfl (lv_at hl 2 rfl) ?_
  replace h := bd h
  obtain ⟨_, q1, h⟩ := h
  replace h := bd h
  obtain ⟨x3, q2, h⟩ := h
  refine c_X7_isPlace ⟨hx, hb, hml, hown, hts⟩ hl.1 hK hP hS wd_1052 ⟨(Nat.le_of_ble_eq_true rfl), (Nat.le_of_ble_eq_true rfl)⟩ q2 q1 (Nat.le_of_ble_eq_true rfl) dX7_value_4 ⟨(Nat.le_of_ble_eq_true rfl), (Nat.le_of_ble_eq_true rfl)⟩ (fun H locs hP hS => ?_)
  replace h := bd h
  obtain ⟨t4, ht, h⟩ := h
  have K4 : ∀ (H : Heap) (locs : List Loc) (ls : Array Slot), SP D cy S H → (∀ a, S a ≠ none → (dm S s.heap.size) a) → va_S (dm S s.heap.size) s.heap H locs → lv_has ls 3 [(0, .ref a0), (1, .int a1), (2, .int a2)] → W p l e rm_X7_value s m ([.ref a0, .int a1, .int a2] : List Value).toArray below meth c H locs 0 0 (MQ below (va_Qi (fun r' (_ : Unit) => r' = r) (fun _ t => PoS D cy S1 (dm S s.heap.size) t) (dm S s.heap.size)) ([.ref a0, .int a1, .int a2] : List Value).toArray s 0 0 (dm S s.heap.size)) (F0 m 15 ls [.int t4, .ref a0]) := by
    intro H locs ls hP hD hS hl
    replace h := bd h
    obtain ⟨Z6, q7, h⟩ := h
    refine fp_6_5 hx hb hts hown hK hP hD hS wd_892 q7 dX7_value_15 (fun H locs hz9 hP hD hS => ?_)
    refine lv_aload_n hx hb dX7_value_18 rfl (lv_at hl 0 rfl) ?_
    replace h := bd h
    obtain ⟨x8, q9, h⟩ := h
    refine fg_6_5 hx hb hts hown hK hP wd_892 q9 dX7_value_19 ?_
    replace h := bd h
    obtain ⟨t10, ht, h⟩ := h
    have K10 : ∀ (H : Heap) (locs : List Loc) (ls : Array Slot), SP D cy Z6 H → (∀ a, Z6 a ≠ none → (dm S s.heap.size) a) → va_S (dm S s.heap.size) s.heap H locs → lv_has ls 3 [] → W p l e rm_X7_value s m ([.ref a0, .int a1, .int a2] : List Value).toArray below meth c H locs 0 0 (MQ below (va_Qi (fun r' (_ : Unit) => r' = r) (fun _ t => PoS D cy S1 (dm S s.heap.size) t) (dm S s.heap.size)) ([.ref a0, .int a1, .int a2] : List Value).toArray s 0 0 (dm S s.heap.size)) (F0 m 38 ls [.int t10]) := by
      intro H locs ls hP hD hS hl
      cases h
      exact e_im hx hb hlocks hr hP hD hS (Nat.le_of_ble_eq_true rfl) (Nat.le_of_ble_eq_true rfl) dX7_value_38
    replace h := ht
    refine lv_if_le (tgt := 29) hx hb dX7_value_22 (by decide) (fun c11 => ?_) (fun c11 => ?_)
    · replace h := ifp c11 h
      refine lv_aload_n hx hb dX7_value_29 rfl (lv_at hl 0 rfl) ?_
      refine lv_iload_n hx hb dX7_value_30 rfl (lv_at hl 1 rfl) ?_
      refine lv_bipush (v := 8) hx hb dX7_value_31 (by decide) ?_
      refine lv_iload_n hx hb dX7_value_33 rfl (lv_at hl 2 rfl) ?_
      refine lv_iadd hx hb dX7_value_34 ?_
      replace h := bd h
      obtain ⟨_, q12, h⟩ := h
      replace h := bd h
      obtain ⟨x14, q13, h⟩ := h
      refine c_X7_of ⟨hx, hb, hml, hown, hts⟩ hl.1 hK hP hS wd_961 ⟨(Nat.le_of_ble_eq_true rfl), (Nat.le_of_ble_eq_true rfl)⟩ q13 q12 (Nat.le_of_ble_eq_true rfl) dX7_value_35 ⟨(Nat.le_of_ble_eq_true rfl), (Nat.le_of_ble_eq_true rfl)⟩ (fun H locs hP hS => ?_)
      cases h
      exact K10 _ _ _ hP hD hS (lv_sub hl [] rfl)
    · replace h := ifn c11 h
      refine lv_iconst (v := 0) hx hb dX7_value_25 (by decide) ?_
      refine lv_goto (tgt := 38) hx hb dX7_value_26 (by decide) ?_
      cases h
      exact K10 _ _ _ hP hD hS (lv_sub hl [] rfl)
  replace h := ht
  refine lv_if_eq (tgt := 14) hx hb dX7_value_7 (by decide) (fun c5 => ?_) (fun c5 => ?_)
  · replace h := ifp c5 h
    refine lv_iconst (v := 1) hx hb dX7_value_14 (by decide) ?_
    cases h
    exact K4 _ _ _ hP hD hS (lv_sub hl [0, 1, 2] rfl)
  · replace h := ifn c5 h
    refine lv_iconst (v := 0) hx hb dX7_value_10 (by decide) ?_
    refine lv_goto (tgt := 15) hx hb dX7_value_11 (by decide) ?_
    cases h
    exact K4 _ _ _ hP hD hS (lv_sub hl [0, 1, 2] rfl)
set_option maxRecDepth 100000 in
theorem c_X7_value {p : Program} {l : Launch} {e : Env} {R : Room} {s : State} {m : MethodId} {args : Array Value} {below : List Frame} {meth : Method} {c : Code} {H : Heap} {locs : List Loc} {cells slots : Nat} {Q : State → Prop} {cc : ByteArray} {pc index nL : Nat} {ls : Array Slot} {rest : List Value} {D : va_G} {cy : Nat → ClassId} {A0 : Nat → Prop} {S : St} {H0 : Heap} {own : String} {u : Unit} {a0 : Nat} {a1 : Int32} {a2 : Int32} {r : Int32} {S1 : St}  (hF : CallFix p m c cc nL s args ALLW own) (hsz : ls.size = nL) (hK : va_K D vwCl (tyL cy) s) (hP : SP D cy S H) (hD : ∀ a, S a ≠ none → A0 a) (hA : ∀ q, H0.size ≤ q → A0 q) (hS : va_S A0 H0 H locs) (hk : Cond.methodLink own index yX7_value ∈ ALLW) (hR : rm_X7_value.frames + 1 ≤ R.frames ∧ 8 + (3 + 11) + rm_X7_value.locals ≤ R.locals) (h : f_X7_value S a0 a1 a2 = some (r, S1)) (hc : oO S a0 6 = some u) (hW : (rest.map fun v => v.category).sum ≤ 8) (hdg : decode cc pc = .ok (.invokevirtual index, 3)) (hf : cells + 0 ≤ R.cells ∧ slots + 0 ≤ R.slots)
    (kk : ∀ (H1 : Heap) (locs1 : List Loc), SP D cy S1 H1 → (∀ a, S1 a ≠ none → A0 a) → va_S A0 H0 H1 locs1 → W p l e R s m args below meth c H1 locs1 (cells + 0) (slots + 0) Q (F0 m (pc + 3) ls (.int r :: rest))) : W p l e R s m args below meth c H locs cells slots Q (F0 m pc ls (.int a2 :: .int a1 :: .ref a0 :: rest)) := by
  exact k_iVm (As := [.int a1, .int a2]) hF hsz (m_X7_value l D cy H.size S a0 a1 a2 r S1 h) (cwV_of (n := 2) hF.2.2.2.2 hk wd_1163 wd_1164 wd_75 wd_1165 rfl rfl (by decide +kernel) hR) rfl hK hP hD hA hS (ci := 6) hc rfl hW rfl hdg hf kk
/-- VowBlocksModel.sumOf(I)I -/
def f_X7_sumOf_L4 (y4_0 : Nat) (y4_1 : Int32) : Nat → St → Int32 → Int32 →  Option (Int32 × St)
  | 0, _, _, _ => none
  | fu + 1, S4_, y4_2, y4_3 =>
    (gR S4_ y4_0 6 0).bind fun x3 =>
    (aI S4_ x3 2).bind fun x5 =>
    if x5 ≤ y4_3 then
      some (y4_2, S4_)
    else
      (oO S4_ y4_0 6).bind fun _ =>
      (f_X7_blockNow S4_ y4_0 y4_3 y4_1).bind fun z10 =>
      f_X7_sumOf_L4 y4_0 y4_1 fu z10.2 (y4_2 + z10.1) (y4_3 + 1)
def f_X7_sumOf (S : St) (a0 : Nat) (a1 : Int32) : Option (Int32 × St) :=
  (f_X7_sumOf_L4 a0 a1 FU S 0 0).bind fun z1 =>
  some (z1.1, z1.2)
abbrev rm_X7_sumOf : Room := { frames := 6, cells := 0, slots := 0, locals := 131 }
set_option maxHeartbeats 4000000 in
set_option maxRecDepth 100000 in
theorem m_X7_sumOf (l : Launch) (D : va_G) (cy : Nat → ClassId) (sz : Nat) (S : St) (a0 : Nat) (a1 : Int32) (r : Int32) (S1 : St) (h : f_X7_sumOf S a0 a1 = some (r, S1)) : Met l yX7_sumOf (wsA yX7_sumOf cX7_sumOf 5 (some .int)) rm_X7_sumOf (va_Pc [.ref a0, .int a1] (PN D cy S sz)) (va_Qi (fun r' (_ : Unit) => r' = r) (fun _ t => PoS D cy S1 (dm S sz) t) (dm S sz)) 0 0 (dm S sz) := by
  refine Met.ofW (cc := cX7_sumOf) (maxL := 5) (ret := (some .int)) (by decide) rfl ?_
  intro p e s m args below meth c s₁ B hml hv
  obtain ⟨rfl, hsz, hP, hK⟩ := hv
  have hx := B.exec
  have hb := B.bytes
  have hr := B.returns
  have hts9 := atoms_spec (ws := wsA yX7_sumOf cX7_sumOf 5 (some .int)) B.pre
  have hts : ∀ w ∈ ALLW, w.before _ s = true := fun w h => hts9 w (List.mem_cons_of_mem _ h)
  have hown : s.vm.findClass RX7 = some m.cls := findClass_of_methodNamed B.named
  have hlocks := B.notSynchronized
  subst hsz
  have hD : ∀ a, S a ≠ none → dm S s.heap.size a := fun a h => Or.inl h
  have hA : ∀ q : Nat, s.heap.size ≤ q → dm S s.heap.size q := fun q h => Or.inr h
  have hS : va_S (dm S s.heap.size) s.heap s.heap [] := va_S.rf
  have hl := lv_entry [.ref a0, .int a1] (n := 5) (Nat.le_of_ble_eq_true rfl)
  rw [lg_entry_eq]
  generalize (lg_sl [.ref a0, .int a1] ++ List.replicate (5 - (lg_sl [.ref a0, .int a1]).length) Slot.unset).toArray = ls at hl ⊢
  have hl : lv_has ls 5 [(0, .ref a0), (1, .int a1)] := hl
  rw [f_X7_sumOf] at h
  refine lv_iconst (v := 0) hx hb dX7_sumOf_0 (by decide) ?_
  refine lv_istore_n (lv' := [(2, .int 0), (0, .ref a0), (1, .int a1)]) hx hb dX7_sumOf_1 rfl hl (by decide) rfl (fun ls hl => ?_)
  refine lv_iconst (v := 0) hx hb dX7_sumOf_2 (by decide) ?_
  refine lv_istore_n (lv' := [(3, .int 0), (2, .int 0), (0, .ref a0), (1, .int a1)]) hx hb dX7_sumOf_3 rfl hl (by decide) rfl (fun ls hl => ?_)
  have L4 : ∀ (y4_0 : Nat) (y4_1 : Int32) (fu : Nat) (S4_ : St) (y4_2 : Int32) (y4_3 : Int32) (res : Int32 × St), f_X7_sumOf_L4 y4_0 y4_1 fu S4_ y4_2 y4_3 = some res → ∀ (H : Heap) (locs : List Loc) (ls : Array Slot), SP D cy S4_ H → (∀ a, S4_ a ≠ none → (dm S s.heap.size) a) → va_S (dm S s.heap.size) s.heap H locs → lv_has ls 5 [(0, .ref y4_0), (1, .int y4_1), (2, .int y4_2), (3, .int y4_3)] → (∀ (H : Heap) (locs : List Loc) (ls : Array Slot), SP D cy res.2 H → (∀ a, res.2 a ≠ none → (dm S s.heap.size) a) → va_S (dm S s.heap.size) s.heap H locs → lv_has ls 5 [(2, .int res.1)] → W p l e rm_X7_sumOf s m ([.ref a0, .int a1] : List Value).toArray below meth c H locs 0 0 (MQ below (va_Qi (fun r' (_ : Unit) => r' = r) (fun _ t => PoS D cy S1 (dm S s.heap.size) t) (dm S s.heap.size)) ([.ref a0, .int a1] : List Value).toArray s 0 0 (dm S s.heap.size)) (F0 m 33 ls [])) → W p l e rm_X7_sumOf s m ([.ref a0, .int a1] : List Value).toArray below meth c H locs 0 0 (MQ below (va_Qi (fun r' (_ : Unit) => r' = r) (fun _ t => PoS D cy S1 (dm S s.heap.size) t) (dm S s.heap.size)) ([.ref a0, .int a1] : List Value).toArray s 0 0 (dm S s.heap.size)) (F0 m 4 ls []) := by
    intro y4_0 y4_1 fu
    induction fu with
    | zero =>
      intro S4_ y4_2 y4_3 res h
      rw [f_X7_sumOf_L4] at h
      cases h
    | succ fu ih =>
      intro S4_ y4_2 y4_3 res h H locs ls hP hD hS hl hexit
      rw [f_X7_sumOf_L4] at h
      refine lv_iload_n hx hb dX7_sumOf_4 rfl (lv_at hl 3 rfl) ?_
      refine lv_aload_n hx hb dX7_sumOf_5 rfl (lv_at hl 0 rfl) ?_
      replace h := bd h
      obtain ⟨x3, q4, h⟩ := h
      refine fg_6_0 hx hb hts hown hK hP wd_887 q4 dX7_sumOf_6 ?_
      refine lv_iconst (v := 2) hx hb dX7_sumOf_9 (by decide) ?_
      replace h := bd h
      obtain ⟨x5, q6, h⟩ := h
      refine r_aI hx hb hK hP q6 dX7_sumOf_10 ?_
      refine lv_icmp_ge (tgt := 33) hx hb dX7_sumOf_11 (by decide) (fun c7 => ?_) (fun c7 => ?_)
      · replace h := ifp c7 h
        cases h
        exact hexit _ _ _ hP hD hS (lv_sub hl [2] rfl)
      · replace h := ifn c7 h
        refine lv_aload_n hx hb dX7_sumOf_14 rfl (lv_at hl 0 rfl) ?_
        refine lv_iload_n hx hb dX7_sumOf_15 rfl (lv_at hl 3 rfl) ?_
        refine lv_iload_n hx hb dX7_sumOf_16 rfl (lv_at hl 1 rfl) ?_
        replace h := bd h
        obtain ⟨_, q8, h⟩ := h
        replace h := bd h
        obtain ⟨z10, q9, h⟩ := h
        refine c_X7_blockNow ⟨hx, hb, hml, hown, hts⟩ hl.1 hK hP hD hA hS wd_1150 ⟨(Nat.le_of_ble_eq_true rfl), (Nat.le_of_ble_eq_true rfl)⟩ q9 q8 (Nat.le_of_ble_eq_true rfl) dX7_sumOf_17 ⟨(Nat.le_of_ble_eq_true rfl), (Nat.le_of_ble_eq_true rfl)⟩ (fun H locs hP hD hS => ?_)
        refine lv_istore (lv' := [(4, .int z10.1), (0, .ref y4_0), (1, .int y4_1), (2, .int y4_2), (3, .int y4_3)]) hx hb dX7_sumOf_20 hl (by decide) rfl (fun ls hl => ?_)
        refine lv_iload_n hx hb dX7_sumOf_22 rfl (lv_at hl 3 rfl) ?_
        refine lv_iload hx hb dX7_sumOf_23 (lv_at hl 0 rfl) ?_
        refine lv_iadd hx hb dX7_sumOf_25 ?_
        refine lv_istore_n (lv' := [(2, .int (y4_2 + z10.1)), (4, .int z10.1), (0, .ref y4_0), (1, .int y4_1), (3, .int y4_3)]) hx hb dX7_sumOf_26 rfl hl (by decide) rfl (fun ls hl => ?_)
        refine lv_iinc (v := (y4_3 + 1)) (lv' := [(3, .int (y4_3 + 1)), (2, .int (y4_2 + z10.1)), (4, .int z10.1), (0, .ref y4_0), (1, .int y4_1)]) hx hb dX7_sumOf_27 hl (k := 4) rfl rfl (by decide) rfl (fun ls hl => ?_)
        refine lv_goto (tgt := 4) hx hb dX7_sumOf_30 (by decide) ?_
        exact ih z10.2 (y4_2 + z10.1) (y4_3 + 1) _ h _ _ _ hP hD hS (lv_sub hl [3, 4, 1, 0] rfl) hexit
  replace h := bd h
  obtain ⟨z1, q11, h⟩ := h
  refine L4 a0 a1 FU S 0 0 z1 q11 _ _ _ hP hD hS (lv_sub hl [2, 3, 1, 0] rfl) (fun H locs ls hP hD hS hl => ?_)
  refine lv_iload_n hx hb dX7_sumOf_33 rfl (lv_at hl 0 rfl) ?_
  cases h
  exact e_im hx hb hlocks hr hP hD hS (Nat.le_of_ble_eq_true rfl) (Nat.le_of_ble_eq_true rfl) dX7_sumOf_34
set_option maxRecDepth 100000 in
theorem c_X7_sumOf {p : Program} {l : Launch} {e : Env} {R : Room} {s : State} {m : MethodId} {args : Array Value} {below : List Frame} {meth : Method} {c : Code} {H : Heap} {locs : List Loc} {cells slots : Nat} {Q : State → Prop} {cc : ByteArray} {pc index nL : Nat} {ls : Array Slot} {rest : List Value} {D : va_G} {cy : Nat → ClassId} {A0 : Nat → Prop} {S : St} {H0 : Heap} {own : String} {u : Unit} {a0 : Nat} {a1 : Int32} {r : Int32} {S1 : St}  (hF : CallFix p m c cc nL s args ALLW own) (hsz : ls.size = nL) (hK : va_K D vwCl (tyL cy) s) (hP : SP D cy S H) (hD : ∀ a, S a ≠ none → A0 a) (hA : ∀ q, H0.size ≤ q → A0 q) (hS : va_S A0 H0 H locs) (hk : Cond.methodLink own index yX7_sumOf ∈ ALLW) (hR : rm_X7_sumOf.frames + 1 ≤ R.frames ∧ 8 + (5 + 11) + rm_X7_sumOf.locals ≤ R.locals) (h : f_X7_sumOf S a0 a1 = some (r, S1)) (hc : oO S a0 6 = some u) (hW : (rest.map fun v => v.category).sum ≤ 8) (hdg : decode cc pc = .ok (.invokevirtual index, 3)) (hf : cells + 0 ≤ R.cells ∧ slots + 0 ≤ R.slots)
    (kk : ∀ (H1 : Heap) (locs1 : List Loc), SP D cy S1 H1 → (∀ a, S1 a ≠ none → A0 a) → va_S A0 H0 H1 locs1 → W p l e R s m args below meth c H1 locs1 (cells + 0) (slots + 0) Q (F0 m (pc + 3) ls (.int r :: rest))) : W p l e R s m args below meth c H locs cells slots Q (F0 m pc ls (.int a1 :: .ref a0 :: rest)) := by
  exact k_iVm (As := [.int a1]) hF hsz (m_X7_sumOf l D cy H.size S a0 a1 r S1 h) (cwV_of (n := 1) hF.2.2.2.2 hk wd_1176 wd_57 wd_75 wd_1177 rfl rfl (by decide +kernel) hR) rfl hK hP hD hA hS (ci := 6) hc rfl hW rfl hdg hf kk
/-- VowBlocksModel.blocksWith(I)I -/
def f_X7_blocksWith_L4 (S4_ : St) (y4_0 : Nat) (y4_1 : Int32) : Nat → Int32 → Int32 →  Option (Int32)
  | 0, _, _ => none
  | fu + 1, y4_2, y4_3 =>
    (gR S4_ y4_0 6 0).bind fun x3 =>
    (aI S4_ x3 2).bind fun x5 =>
    if x5 ≤ y4_3 then
      some y4_2
    else
      (
        if y4_1 = (-1) then
          (oO S4_ y4_0 6).bind fun _ =>
          (f_X7_firstAlike S4_ y4_0 y4_3).bind fun x16 =>
          if x16 = y4_3 then
            some 1
          else
            some 0
        else
          (oO S4_ y4_0 6).bind fun _ =>
          (f_X7_of S4_ y4_0 y4_3 1).bind fun x12 =>
          if x12 = y4_1 then
            some 1
          else
            some 0
      : Option (Int32)).bind fun t8 =>
      f_X7_blocksWith_L4 S4_ y4_0 y4_1 fu (y4_2 + t8) (y4_3 + 1)
def f_X7_blocksWith (S : St) (a0 : Nat) (a1 : Int32) : Option (Int32) :=
  (f_X7_blocksWith_L4 S a0 a1 FU 0 0).bind fun z1 =>
  some z1
abbrev rm_X7_blocksWith : Room := { frames := 3, cells := 0, slots := 0, locals := 68 }
set_option maxHeartbeats 4000000 in
set_option maxRecDepth 100000 in
theorem m_X7_blocksWith (l : Launch) (D : va_G) (cy : Nat → ClassId) (S : St) (a0 : Nat) (a1 : Int32) (r : Int32) (h : f_X7_blocksWith S a0 a1 = some r) : Met l yX7_blocksWith (wsA yX7_blocksWith cX7_blocksWith 4 (some .int)) rm_X7_blocksWith (va_Pc [.ref a0, .int a1] (PS D cy S)) (va_Qi (fun r' (_ : Unit) => r' = r) (fun _ _ => True) noA) 0 0 noA := by
  refine Met.ofW (cc := cX7_blocksWith) (maxL := 4) (ret := (some .int)) (by decide) rfl ?_
  intro p e s m args below meth c s₁ B hml hv
  obtain ⟨rfl, hP, hK⟩ := hv
  have hx := B.exec
  have hb := B.bytes
  have hr := B.returns
  have hts9 := atoms_spec (ws := wsA yX7_blocksWith cX7_blocksWith 4 (some .int)) B.pre
  have hts : ∀ w ∈ ALLW, w.before _ s = true := fun w h => hts9 w (List.mem_cons_of_mem _ h)
  have hown : s.vm.findClass RX7 = some m.cls := findClass_of_methodNamed B.named
  have hlocks := B.notSynchronized
  have hS : va_S noA s.heap s.heap [] := va_S.rf
  have hl := lv_entry [.ref a0, .int a1] (n := 4) (Nat.le_of_ble_eq_true rfl)
  rw [lg_entry_eq]
  generalize (lg_sl [.ref a0, .int a1] ++ List.replicate (4 - (lg_sl [.ref a0, .int a1]).length) Slot.unset).toArray = ls at hl ⊢
  have hl : lv_has ls 4 [(0, .ref a0), (1, .int a1)] := hl
  rw [f_X7_blocksWith] at h
  refine lv_iconst (v := 0) hx hb dX7_blocksWith_0 (by decide) ?_
  refine lv_istore_n (lv' := [(2, .int 0), (0, .ref a0), (1, .int a1)]) hx hb dX7_blocksWith_1 rfl hl (by decide) rfl (fun ls hl => ?_)
  refine lv_iconst (v := 0) hx hb dX7_blocksWith_2 (by decide) ?_
  refine lv_istore_n (lv' := [(3, .int 0), (2, .int 0), (0, .ref a0), (1, .int a1)]) hx hb dX7_blocksWith_3 rfl hl (by decide) rfl (fun ls hl => ?_)
  have L4 : ∀ (S4_ : St) (y4_0 : Nat) (y4_1 : Int32) (fu : Nat) (y4_2 : Int32) (y4_3 : Int32) (res : Int32), f_X7_blocksWith_L4 S4_ y4_0 y4_1 fu y4_2 y4_3 = some res → ∀ (H : Heap) (locs : List Loc) (ls : Array Slot), SP D cy S4_ H → va_S noA s.heap H locs → lv_has ls 4 [(0, .ref y4_0), (1, .int y4_1), (2, .int y4_2), (3, .int y4_3)] → (∀ (H : Heap) (locs : List Loc) (ls : Array Slot), SP D cy S4_ H → va_S noA s.heap H locs → lv_has ls 4 [(2, .int res)] → W p l e rm_X7_blocksWith s m ([.ref a0, .int a1] : List Value).toArray below meth c H locs 0 0 (MQ below (va_Qi (fun r' (_ : Unit) => r' = r) (fun _ _ => True) noA) ([.ref a0, .int a1] : List Value).toArray s 0 0 noA) (F0 m 60 ls [])) → W p l e rm_X7_blocksWith s m ([.ref a0, .int a1] : List Value).toArray below meth c H locs 0 0 (MQ below (va_Qi (fun r' (_ : Unit) => r' = r) (fun _ _ => True) noA) ([.ref a0, .int a1] : List Value).toArray s 0 0 noA) (F0 m 4 ls []) := by
    intro S4_ y4_0 y4_1 fu
    induction fu with
    | zero =>
      intro y4_2 y4_3 res h
      rw [f_X7_blocksWith_L4] at h
      cases h
    | succ fu ih =>
      intro y4_2 y4_3 res h H locs ls hP hS hl hexit
      rw [f_X7_blocksWith_L4] at h
      refine lv_iload_n hx hb dX7_blocksWith_4 rfl (lv_at hl 3 rfl) ?_
      refine lv_aload_n hx hb dX7_blocksWith_5 rfl (lv_at hl 0 rfl) ?_
      replace h := bd h
      obtain ⟨x3, q4, h⟩ := h
      refine fg_6_0 hx hb hts hown hK hP wd_887 q4 dX7_blocksWith_6 ?_
      refine lv_iconst (v := 2) hx hb dX7_blocksWith_9 (by decide) ?_
      replace h := bd h
      obtain ⟨x5, q6, h⟩ := h
      refine r_aI hx hb hK hP q6 dX7_blocksWith_10 ?_
      refine lv_icmp_ge (tgt := 60) hx hb dX7_blocksWith_11 (by decide) (fun c7 => ?_) (fun c7 => ?_)
      · replace h := ifp c7 h
        cases h
        exact hexit _ _ _ hP hS (lv_sub hl [2] rfl)
      · replace h := ifn c7 h
        refine lv_iload_n hx hb dX7_blocksWith_14 rfl (lv_at hl 2 rfl) ?_
        refine lv_iload_n hx hb dX7_blocksWith_15 rfl (lv_at hl 1 rfl) ?_
        refine lv_iconst (v := (-1)) hx hb dX7_blocksWith_16 (by decide) ?_
        replace h := bd h
        obtain ⟨t8, ht, h⟩ := h
        have K8 : ∀ (H : Heap) (locs : List Loc) (ls : Array Slot), SP D cy S4_ H → va_S noA s.heap H locs → lv_has ls 4 [(0, .ref y4_0), (1, .int y4_1), (3, .int y4_3)] → W p l e rm_X7_blocksWith s m ([.ref a0, .int a1] : List Value).toArray below meth c H locs 0 0 (MQ below (va_Qi (fun r' (_ : Unit) => r' = r) (fun _ _ => True) noA) ([.ref a0, .int a1] : List Value).toArray s 0 0 noA) (F0 m 52 ls [.int t8, .int y4_2]) := by
          intro H locs ls hP hS hl
          refine lv_iadd hx hb dX7_blocksWith_52 ?_
          refine lv_istore_n (lv' := [(2, .int (y4_2 + t8)), (0, .ref y4_0), (1, .int y4_1), (3, .int y4_3)]) hx hb dX7_blocksWith_53 rfl hl (by decide) rfl (fun ls hl => ?_)
          refine lv_iinc (v := (y4_3 + 1)) (lv' := [(3, .int (y4_3 + 1)), (2, .int (y4_2 + t8)), (0, .ref y4_0), (1, .int y4_1)]) hx hb dX7_blocksWith_54 hl (k := 3) rfl rfl (by decide) rfl (fun ls hl => ?_)
          refine lv_goto (tgt := 4) hx hb dX7_blocksWith_57 (by decide) ?_
          exact ih (y4_2 + t8) (y4_3 + 1) _ h _ _ _ hP hS (lv_sub hl [2, 3, 1, 0] rfl) hexit
        replace h := ht
        refine lv_icmp_ne (tgt := 37) hx hb dX7_blocksWith_17 (by decide) (fun c9 => ?_) (fun c9 => ?_)
        · replace h := ifn c9 h
          refine lv_aload_n hx hb dX7_blocksWith_37 rfl (lv_at hl 0 rfl) ?_
          refine lv_iload_n hx hb dX7_blocksWith_38 rfl (lv_at hl 3 rfl) ?_
          refine lv_iconst (v := 1) hx hb dX7_blocksWith_39 (by decide) ?_
          replace h := bd h
          obtain ⟨_, q10, h⟩ := h
          replace h := bd h
          obtain ⟨x12, q11, h⟩ := h
          refine c_X7_of ⟨hx, hb, hml, hown, hts⟩ hl.1 hK hP hS wd_961 ⟨(Nat.le_of_ble_eq_true rfl), (Nat.le_of_ble_eq_true rfl)⟩ q11 q10 (Nat.le_of_ble_eq_true rfl) dX7_blocksWith_40 ⟨(Nat.le_of_ble_eq_true rfl), (Nat.le_of_ble_eq_true rfl)⟩ (fun H locs hP hS => ?_)
          refine lv_iload_n hx hb dX7_blocksWith_43 rfl (lv_at hl 1 rfl) ?_
          refine lv_icmp_ne (tgt := 51) hx hb dX7_blocksWith_44 (by decide) (fun c13 => ?_) (fun c13 => ?_)
          · replace h := ifn c13 h
            refine lv_iconst (v := 0) hx hb dX7_blocksWith_51 (by decide) ?_
            cases h
            exact K8 _ _ _ hP hS (lv_sub hl [0, 1, 3] rfl)
          · replace h := ifp c13 h
            refine lv_iconst (v := 1) hx hb dX7_blocksWith_47 (by decide) ?_
            refine lv_goto (tgt := 52) hx hb dX7_blocksWith_48 (by decide) ?_
            cases h
            exact K8 _ _ _ hP hS (lv_sub hl [0, 1, 3] rfl)
        · replace h := ifp c9 h
          refine lv_aload_n hx hb dX7_blocksWith_20 rfl (lv_at hl 0 rfl) ?_
          refine lv_iload_n hx hb dX7_blocksWith_21 rfl (lv_at hl 3 rfl) ?_
          replace h := bd h
          obtain ⟨_, q14, h⟩ := h
          replace h := bd h
          obtain ⟨x16, q15, h⟩ := h
          refine c_X7_firstAlike ⟨hx, hb, hml, hown, hts⟩ hl.1 hK hP hS wd_1154 ⟨(Nat.le_of_ble_eq_true rfl), (Nat.le_of_ble_eq_true rfl)⟩ q15 q14 (Nat.le_of_ble_eq_true rfl) dX7_blocksWith_22 ⟨(Nat.le_of_ble_eq_true rfl), (Nat.le_of_ble_eq_true rfl)⟩ (fun H locs hP hS => ?_)
          refine lv_iload_n hx hb dX7_blocksWith_25 rfl (lv_at hl 3 rfl) ?_
          refine lv_icmp_ne (tgt := 33) hx hb dX7_blocksWith_26 (by decide) (fun c17 => ?_) (fun c17 => ?_)
          · replace h := ifn c17 h
            refine lv_iconst (v := 0) hx hb dX7_blocksWith_33 (by decide) ?_
            refine lv_goto (tgt := 52) hx hb dX7_blocksWith_34 (by decide) ?_
            cases h
            exact K8 _ _ _ hP hS (lv_sub hl [0, 1, 3] rfl)
          · replace h := ifp c17 h
            refine lv_iconst (v := 1) hx hb dX7_blocksWith_29 (by decide) ?_
            refine lv_goto (tgt := 52) hx hb dX7_blocksWith_30 (by decide) ?_
            cases h
            exact K8 _ _ _ hP hS (lv_sub hl [0, 1, 3] rfl)
  replace h := bd h
  obtain ⟨z1, q18, h⟩ := h
  refine L4 S a0 a1 FU 0 0 z1 q18 _ _ _ hP hS (lv_sub hl [2, 3, 1, 0] rfl) (fun H locs ls hP hS hl => ?_)
  refine lv_iload_n hx hb dX7_blocksWith_60 rfl (lv_at hl 0 rfl) ?_
  cases h
  exact e_ip hx hb hlocks hr hS (Nat.le_of_ble_eq_true rfl) (Nat.le_of_ble_eq_true rfl) dX7_blocksWith_61
set_option maxRecDepth 100000 in
theorem c_X7_blocksWith {p : Program} {l : Launch} {e : Env} {R : Room} {s : State} {m : MethodId} {args : Array Value} {below : List Frame} {meth : Method} {c : Code} {H : Heap} {locs : List Loc} {cells slots : Nat} {Q : State → Prop} {cc : ByteArray} {pc index nL : Nat} {ls : Array Slot} {rest : List Value} {D : va_G} {cy : Nat → ClassId} {A0 : Nat → Prop} {S : St} {H0 : Heap} {own : String} {u : Unit} {a0 : Nat} {a1 : Int32} {r : Int32}  (hF : CallFix p m c cc nL s args ALLW own) (hsz : ls.size = nL) (hK : va_K D vwCl (tyL cy) s) (hP : SP D cy S H) (hS : va_S A0 H0 H locs) (hk : Cond.methodLink own index yX7_blocksWith ∈ ALLW) (hR : rm_X7_blocksWith.frames + 1 ≤ R.frames ∧ 8 + (4 + 11) + rm_X7_blocksWith.locals ≤ R.locals) (h : f_X7_blocksWith S a0 a1 = some r) (hc : oO S a0 6 = some u) (hW : (rest.map fun v => v.category).sum ≤ 8) (hdg : decode cc pc = .ok (.invokevirtual index, 3)) (hf : cells + 0 ≤ R.cells ∧ slots + 0 ≤ R.slots)
    (kk : ∀ (H1 : Heap) (locs1 : List Loc), SP D cy S H1 → va_S A0 H0 H1 locs1 → W p l e R s m args below meth c H1 locs1 (cells + 0) (slots + 0) Q (F0 m (pc + 3) ls (.int r :: rest))) : W p l e R s m args below meth c H locs cells slots Q (F0 m pc ls (.int a1 :: .ref a0 :: rest)) := by
  exact k_iVp (As := [.int a1]) hF hsz (m_X7_blocksWith l D cy S a0 a1 r h) (cwV_of (n := 1) hF.2.2.2.2 hk wd_1180 wd_58 wd_75 wd_1181 rfl rfl (by decide +kernel) hR) rfl hK hP hS (ci := 6) hc rfl hW rfl hdg hf kk
/-- VowBlocksModel.counted(I)I -/
def f_X7_counted (S : St) (a0 : Nat) (a1 : Int32) : Option (Int32 × St) :=
  if a1 = 0 then
    (gR S a0 6 0).bind fun x15 =>
    (aI S x15 2).bind fun x17 =>
    some (x17, S)
  else
    if a1 = 1 then
      (gR S a0 6 0).bind fun x19 =>
      (aI S x19 3).bind fun x21 =>
      some (x21, S)
    else
      if a1 = 2 then
        (oO S a0 6).bind fun _ =>
        (f_X7_sumOf S a0 0).bind fun z25 =>
        some (z25.1, z25.2)
      else
        if a1 = 3 then
          (oO S a0 6).bind fun _ =>
          (f_X7_sumOf S a0 2).bind fun z28 =>
          some (z28.1, z28.2)
        else
          if a1 = 4 then
            (oO S a0 6).bind fun _ =>
            (f_X7_sumOf S a0 9).bind fun z31 =>
            some (z31.1, z31.2)
          else
            if a1 = 5 then
              (oO S a0 6).bind fun _ =>
              (f_X7_sumOf S a0 4).bind fun z34 =>
              some (z34.1, z34.2)
            else
              if a1 = 6 then
                (oO S a0 6).bind fun _ =>
                (f_X7_sumOf S a0 5).bind fun z37 =>
                some (z37.1, z37.2)
              else
                if a1 = 7 then
                  (oO S a0 6).bind fun _ =>
                  (f_X7_sumOf S a0 7).bind fun z40 =>
                  some (z40.1, z40.2)
                else
                  if a1 = 8 then
                    (oO S a0 6).bind fun _ =>
                    (f_X7_blocksWith S a0 (-1)).bind fun x43 =>
                    some (x43, S)
                  else
                    if a1 = 9 then
                      (gI S a0 6 1).bind fun x44 =>
                      some (x44, S)
                    else
                      (oO S a0 6).bind fun _ =>
                      (f_X7_blocksWith S a0 (a1 - 10)).bind fun x13 =>
                      some (x13, S)
abbrev rm_X7_counted : Room := { frames := 7, cells := 0, slots := 0, locals := 155 }
set_option maxHeartbeats 4000000 in
set_option maxRecDepth 100000 in
theorem m_X7_counted (l : Launch) (D : va_G) (cy : Nat → ClassId) (sz : Nat) (S : St) (a0 : Nat) (a1 : Int32) (r : Int32) (S1 : St) (h : f_X7_counted S a0 a1 = some (r, S1)) : Met l yX7_counted (wsA yX7_counted cX7_counted 2 (some .int)) rm_X7_counted (va_Pc [.ref a0, .int a1] (PN D cy S sz)) (va_Qi (fun r' (_ : Unit) => r' = r) (fun _ t => PoS D cy S1 (dm S sz) t) (dm S sz)) 0 0 (dm S sz) := by
  refine Met.ofW (cc := cX7_counted) (maxL := 2) (ret := (some .int)) (by decide) rfl ?_
  intro p e s m args below meth c s₁ B hml hv
  obtain ⟨rfl, hsz, hP, hK⟩ := hv
  have hx := B.exec
  have hb := B.bytes
  have hr := B.returns
  have hts9 := atoms_spec (ws := wsA yX7_counted cX7_counted 2 (some .int)) B.pre
  have hts : ∀ w ∈ ALLW, w.before _ s = true := fun w h => hts9 w (List.mem_cons_of_mem _ h)
  have hown : s.vm.findClass RX7 = some m.cls := findClass_of_methodNamed B.named
  have hlocks := B.notSynchronized
  subst hsz
  have hD : ∀ a, S a ≠ none → dm S s.heap.size a := fun a h => Or.inl h
  have hA : ∀ q : Nat, s.heap.size ≤ q → dm S s.heap.size q := fun q h => Or.inr h
  have hS : va_S (dm S s.heap.size) s.heap s.heap [] := va_S.rf
  have hl := lv_entry [.ref a0, .int a1] (n := 2) (Nat.le_of_ble_eq_true rfl)
  rw [lg_entry_eq]
  generalize (lg_sl [.ref a0, .int a1] ++ List.replicate (2 - (lg_sl [.ref a0, .int a1]).length) Slot.unset).toArray = ls at hl ⊢
  have hl : lv_has ls 2 [(0, .ref a0), (1, .int a1)] := hl
  rw [f_X7_counted] at h
  refine lv_iload_n hx hb dX7_counted_0 rfl (lv_at hl 1 rfl) ?_
  by_cases c1 : a1 = 0
  · replace h := ifp c1 h
    refine lv_tableIn (off := 55) (tgt := 56) hx hb dX7_counted_1 (by rw [c1]; decide) (by rw [c1]; decide) (by rw [c1]; rfl) (by decide) ?_
    refine lv_aload_n hx hb dX7_counted_56 rfl (lv_at hl 0 rfl) ?_
    replace h := bd h
    obtain ⟨x15, q16, h⟩ := h
    refine fg_6_0 hx hb hts hown hK hP wd_887 q16 dX7_counted_57 ?_
    refine lv_iconst (v := 2) hx hb dX7_counted_60 (by decide) ?_
    replace h := bd h
    obtain ⟨x17, q18, h⟩ := h
    refine r_aI hx hb hK hP q18 dX7_counted_61 ?_
    cases h
    exact e_im hx hb hlocks hr hP hD hS (Nat.le_of_ble_eq_true rfl) (Nat.le_of_ble_eq_true rfl) dX7_counted_62
  · replace h := ifn c1 h
    by_cases c2 : a1 = 1
    · replace h := ifp c2 h
      refine lv_tableIn (off := 62) (tgt := 63) hx hb dX7_counted_1 (by rw [c2]; decide) (by rw [c2]; decide) (by rw [c2]; rfl) (by decide) ?_
      refine lv_aload_n hx hb dX7_counted_63 rfl (lv_at hl 0 rfl) ?_
      replace h := bd h
      obtain ⟨x19, q20, h⟩ := h
      refine fg_6_0 hx hb hts hown hK hP wd_887 q20 dX7_counted_64 ?_
      refine lv_iconst (v := 3) hx hb dX7_counted_67 (by decide) ?_
      replace h := bd h
      obtain ⟨x21, q22, h⟩ := h
      refine r_aI hx hb hK hP q22 dX7_counted_68 ?_
      cases h
      exact e_im hx hb hlocks hr hP hD hS (Nat.le_of_ble_eq_true rfl) (Nat.le_of_ble_eq_true rfl) dX7_counted_69
    · replace h := ifn c2 h
      by_cases c3 : a1 = 2
      · replace h := ifp c3 h
        refine lv_tableIn (off := 69) (tgt := 70) hx hb dX7_counted_1 (by rw [c3]; decide) (by rw [c3]; decide) (by rw [c3]; rfl) (by decide) ?_
        refine lv_aload_n hx hb dX7_counted_70 rfl (lv_at hl 0 rfl) ?_
        refine lv_iconst (v := 0) hx hb dX7_counted_71 (by decide) ?_
        replace h := bd h
        obtain ⟨_, q23, h⟩ := h
        replace h := bd h
        obtain ⟨z25, q24, h⟩ := h
        refine c_X7_sumOf ⟨hx, hb, hml, hown, hts⟩ hl.1 hK hP hD hA hS wd_1174 ⟨(Nat.le_of_ble_eq_true rfl), (Nat.le_of_ble_eq_true rfl)⟩ q24 q23 (Nat.le_of_ble_eq_true rfl) dX7_counted_72 ⟨(Nat.le_of_ble_eq_true rfl), (Nat.le_of_ble_eq_true rfl)⟩ (fun H locs hP hD hS => ?_)
        cases h
        exact e_im hx hb hlocks hr hP hD hS (Nat.le_of_ble_eq_true rfl) (Nat.le_of_ble_eq_true rfl) dX7_counted_75
      · replace h := ifn c3 h
        by_cases c4 : a1 = 3
        · replace h := ifp c4 h
          refine lv_tableIn (off := 75) (tgt := 76) hx hb dX7_counted_1 (by rw [c4]; decide) (by rw [c4]; decide) (by rw [c4]; rfl) (by decide) ?_
          refine lv_aload_n hx hb dX7_counted_76 rfl (lv_at hl 0 rfl) ?_
          refine lv_iconst (v := 2) hx hb dX7_counted_77 (by decide) ?_
          replace h := bd h
          obtain ⟨_, q26, h⟩ := h
          replace h := bd h
          obtain ⟨z28, q27, h⟩ := h
          refine c_X7_sumOf ⟨hx, hb, hml, hown, hts⟩ hl.1 hK hP hD hA hS wd_1174 ⟨(Nat.le_of_ble_eq_true rfl), (Nat.le_of_ble_eq_true rfl)⟩ q27 q26 (Nat.le_of_ble_eq_true rfl) dX7_counted_78 ⟨(Nat.le_of_ble_eq_true rfl), (Nat.le_of_ble_eq_true rfl)⟩ (fun H locs hP hD hS => ?_)
          cases h
          exact e_im hx hb hlocks hr hP hD hS (Nat.le_of_ble_eq_true rfl) (Nat.le_of_ble_eq_true rfl) dX7_counted_81
        · replace h := ifn c4 h
          by_cases c5 : a1 = 4
          · replace h := ifp c5 h
            refine lv_tableIn (off := 81) (tgt := 82) hx hb dX7_counted_1 (by rw [c5]; decide) (by rw [c5]; decide) (by rw [c5]; rfl) (by decide) ?_
            refine lv_aload_n hx hb dX7_counted_82 rfl (lv_at hl 0 rfl) ?_
            refine lv_bipush (v := 9) hx hb dX7_counted_83 (by decide) ?_
            replace h := bd h
            obtain ⟨_, q29, h⟩ := h
            replace h := bd h
            obtain ⟨z31, q30, h⟩ := h
            refine c_X7_sumOf ⟨hx, hb, hml, hown, hts⟩ hl.1 hK hP hD hA hS wd_1174 ⟨(Nat.le_of_ble_eq_true rfl), (Nat.le_of_ble_eq_true rfl)⟩ q30 q29 (Nat.le_of_ble_eq_true rfl) dX7_counted_85 ⟨(Nat.le_of_ble_eq_true rfl), (Nat.le_of_ble_eq_true rfl)⟩ (fun H locs hP hD hS => ?_)
            cases h
            exact e_im hx hb hlocks hr hP hD hS (Nat.le_of_ble_eq_true rfl) (Nat.le_of_ble_eq_true rfl) dX7_counted_88
          · replace h := ifn c5 h
            by_cases c6 : a1 = 5
            · replace h := ifp c6 h
              refine lv_tableIn (off := 88) (tgt := 89) hx hb dX7_counted_1 (by rw [c6]; decide) (by rw [c6]; decide) (by rw [c6]; rfl) (by decide) ?_
              refine lv_aload_n hx hb dX7_counted_89 rfl (lv_at hl 0 rfl) ?_
              refine lv_iconst (v := 4) hx hb dX7_counted_90 (by decide) ?_
              replace h := bd h
              obtain ⟨_, q32, h⟩ := h
              replace h := bd h
              obtain ⟨z34, q33, h⟩ := h
              refine c_X7_sumOf ⟨hx, hb, hml, hown, hts⟩ hl.1 hK hP hD hA hS wd_1174 ⟨(Nat.le_of_ble_eq_true rfl), (Nat.le_of_ble_eq_true rfl)⟩ q33 q32 (Nat.le_of_ble_eq_true rfl) dX7_counted_91 ⟨(Nat.le_of_ble_eq_true rfl), (Nat.le_of_ble_eq_true rfl)⟩ (fun H locs hP hD hS => ?_)
              cases h
              exact e_im hx hb hlocks hr hP hD hS (Nat.le_of_ble_eq_true rfl) (Nat.le_of_ble_eq_true rfl) dX7_counted_94
            · replace h := ifn c6 h
              by_cases c7 : a1 = 6
              · replace h := ifp c7 h
                refine lv_tableIn (off := 94) (tgt := 95) hx hb dX7_counted_1 (by rw [c7]; decide) (by rw [c7]; decide) (by rw [c7]; rfl) (by decide) ?_
                refine lv_aload_n hx hb dX7_counted_95 rfl (lv_at hl 0 rfl) ?_
                refine lv_iconst (v := 5) hx hb dX7_counted_96 (by decide) ?_
                replace h := bd h
                obtain ⟨_, q35, h⟩ := h
                replace h := bd h
                obtain ⟨z37, q36, h⟩ := h
                refine c_X7_sumOf ⟨hx, hb, hml, hown, hts⟩ hl.1 hK hP hD hA hS wd_1174 ⟨(Nat.le_of_ble_eq_true rfl), (Nat.le_of_ble_eq_true rfl)⟩ q36 q35 (Nat.le_of_ble_eq_true rfl) dX7_counted_97 ⟨(Nat.le_of_ble_eq_true rfl), (Nat.le_of_ble_eq_true rfl)⟩ (fun H locs hP hD hS => ?_)
                cases h
                exact e_im hx hb hlocks hr hP hD hS (Nat.le_of_ble_eq_true rfl) (Nat.le_of_ble_eq_true rfl) dX7_counted_100
              · replace h := ifn c7 h
                by_cases c8 : a1 = 7
                · replace h := ifp c8 h
                  refine lv_tableIn (off := 100) (tgt := 101) hx hb dX7_counted_1 (by rw [c8]; decide) (by rw [c8]; decide) (by rw [c8]; rfl) (by decide) ?_
                  refine lv_aload_n hx hb dX7_counted_101 rfl (lv_at hl 0 rfl) ?_
                  refine lv_bipush (v := 7) hx hb dX7_counted_102 (by decide) ?_
                  replace h := bd h
                  obtain ⟨_, q38, h⟩ := h
                  replace h := bd h
                  obtain ⟨z40, q39, h⟩ := h
                  refine c_X7_sumOf ⟨hx, hb, hml, hown, hts⟩ hl.1 hK hP hD hA hS wd_1174 ⟨(Nat.le_of_ble_eq_true rfl), (Nat.le_of_ble_eq_true rfl)⟩ q39 q38 (Nat.le_of_ble_eq_true rfl) dX7_counted_104 ⟨(Nat.le_of_ble_eq_true rfl), (Nat.le_of_ble_eq_true rfl)⟩ (fun H locs hP hD hS => ?_)
                  cases h
                  exact e_im hx hb hlocks hr hP hD hS (Nat.le_of_ble_eq_true rfl) (Nat.le_of_ble_eq_true rfl) dX7_counted_107
                · replace h := ifn c8 h
                  by_cases c9 : a1 = 8
                  · replace h := ifp c9 h
                    refine lv_tableIn (off := 107) (tgt := 108) hx hb dX7_counted_1 (by rw [c9]; decide) (by rw [c9]; decide) (by rw [c9]; rfl) (by decide) ?_
                    refine lv_aload_n hx hb dX7_counted_108 rfl (lv_at hl 0 rfl) ?_
                    refine lv_iconst (v := (-1)) hx hb dX7_counted_109 (by decide) ?_
                    replace h := bd h
                    obtain ⟨_, q41, h⟩ := h
                    replace h := bd h
                    obtain ⟨x43, q42, h⟩ := h
                    refine c_X7_blocksWith ⟨hx, hb, hml, hown, hts⟩ hl.1 hK hP hS wd_1178 ⟨(Nat.le_of_ble_eq_true rfl), (Nat.le_of_ble_eq_true rfl)⟩ q42 q41 (Nat.le_of_ble_eq_true rfl) dX7_counted_110 ⟨(Nat.le_of_ble_eq_true rfl), (Nat.le_of_ble_eq_true rfl)⟩ (fun H locs hP hS => ?_)
                    cases h
                    exact e_im hx hb hlocks hr hP hD hS (Nat.le_of_ble_eq_true rfl) (Nat.le_of_ble_eq_true rfl) dX7_counted_113
                  · replace h := ifn c9 h
                    by_cases c10 : a1 = 9
                    · replace h := ifp c10 h
                      refine lv_tableIn (off := 113) (tgt := 114) hx hb dX7_counted_1 (by rw [c10]; decide) (by rw [c10]; decide) (by rw [c10]; rfl) (by decide) ?_
                      refine lv_aload_n hx hb dX7_counted_114 rfl (lv_at hl 0 rfl) ?_
                      replace h := bd h
                      obtain ⟨x44, q45, h⟩ := h
                      refine fg_6_1 hx hb hts hown hK hP wd_888 q45 dX7_counted_115 ?_
                      cases h
                      exact e_im hx hb hlocks hr hP hD hS (Nat.le_of_ble_eq_true rfl) (Nat.le_of_ble_eq_true rfl) dX7_counted_118
                    · replace h := ifn c10 h
                      refine lv_tableOut (tgt := 119) hx hb dX7_counted_1 (tsw_out (x := a1) 0 10 (fun k hk => by match k, hk with | 0, _ => exact c1 | 1, _ => exact c2 | 2, _ => exact c3 | 3, _ => exact c4 | 4, _ => exact c5 | 5, _ => exact c6 | 6, _ => exact c7 | 7, _ => exact c8 | 8, _ => exact c9 | 9, _ => exact c10) (by decide)) (by decide) ?_
                      refine lv_aload_n hx hb dX7_counted_119 rfl (lv_at hl 0 rfl) ?_
                      refine lv_iload_n hx hb dX7_counted_120 rfl (lv_at hl 1 rfl) ?_
                      refine lv_bipush (v := 10) hx hb dX7_counted_121 (by decide) ?_
                      refine lv_isub hx hb dX7_counted_123 ?_
                      replace h := bd h
                      obtain ⟨_, q11, h⟩ := h
                      replace h := bd h
                      obtain ⟨x13, q12, h⟩ := h
                      refine c_X7_blocksWith ⟨hx, hb, hml, hown, hts⟩ hl.1 hK hP hS wd_1178 ⟨(Nat.le_of_ble_eq_true rfl), (Nat.le_of_ble_eq_true rfl)⟩ q12 q11 (Nat.le_of_ble_eq_true rfl) dX7_counted_124 ⟨(Nat.le_of_ble_eq_true rfl), (Nat.le_of_ble_eq_true rfl)⟩ (fun H locs hP hS => ?_)
                      cases h
                      exact e_im hx hb hlocks hr hP hD hS (Nat.le_of_ble_eq_true rfl) (Nat.le_of_ble_eq_true rfl) dX7_counted_127
set_option maxRecDepth 100000 in
theorem c_X7_counted {p : Program} {l : Launch} {e : Env} {R : Room} {s : State} {m : MethodId} {args : Array Value} {below : List Frame} {meth : Method} {c : Code} {H : Heap} {locs : List Loc} {cells slots : Nat} {Q : State → Prop} {cc : ByteArray} {pc index nL : Nat} {ls : Array Slot} {rest : List Value} {D : va_G} {cy : Nat → ClassId} {A0 : Nat → Prop} {S : St} {H0 : Heap} {own : String} {u : Unit} {a0 : Nat} {a1 : Int32} {r : Int32} {S1 : St}  (hF : CallFix p m c cc nL s args ALLW own) (hsz : ls.size = nL) (hK : va_K D vwCl (tyL cy) s) (hP : SP D cy S H) (hD : ∀ a, S a ≠ none → A0 a) (hA : ∀ q, H0.size ≤ q → A0 q) (hS : va_S A0 H0 H locs) (hk : Cond.methodLink own index yX7_counted ∈ ALLW) (hR : rm_X7_counted.frames + 1 ≤ R.frames ∧ 8 + (2 + 11) + rm_X7_counted.locals ≤ R.locals) (h : f_X7_counted S a0 a1 = some (r, S1)) (hc : oO S a0 6 = some u) (hW : (rest.map fun v => v.category).sum ≤ 8) (hdg : decode cc pc = .ok (.invokevirtual index, 3)) (hf : cells + 0 ≤ R.cells ∧ slots + 0 ≤ R.slots)
    (kk : ∀ (H1 : Heap) (locs1 : List Loc), SP D cy S1 H1 → (∀ a, S1 a ≠ none → A0 a) → va_S A0 H0 H1 locs1 → W p l e R s m args below meth c H1 locs1 (cells + 0) (slots + 0) Q (F0 m (pc + 3) ls (.int r :: rest))) : W p l e R s m args below meth c H locs cells slots Q (F0 m pc ls (.int a1 :: .ref a0 :: rest)) := by
  exact k_iVm (As := [.int a1]) hF hsz (m_X7_counted l D cy H.size S a0 a1 r S1 h) (cwV_of (n := 1) hF.2.2.2.2 hk wd_1172 wd_56 wd_75 wd_1173 rfl rfl (by decide +kernel) hR) rfl hK hP hD hA hS (ci := 6) hc rfl hW rfl hdg hf kk
/-- VowBlocksModel.count(I)I -/
def f_X7_count (S : St) (a0 : Nat) (a1 : Int32) : Option (Int32 × St) :=
  (f_X7_within a1 0 15).bind fun x2 =>
  (
    if x2 = 0 then
      some 1
    else
      some 0
  : Option (Int32)).bind fun t3 =>
  (pI S a0 6 5 t3).bind fun Z5 =>
  (gI Z5 a0 6 5).bind fun x7 =>
  (
    if x7 ≤ 0 then
      (oO Z5 a0 6).bind fun _ =>
      (f_X7_counted Z5 a0 a1).bind fun z13 =>
      some (z13.1, z13.2)
    else
      some (0, Z5)
  : Option (Int32 × St)).bind fun t9 =>
  some (t9.1, t9.2)
abbrev rm_X7_count : Room := { frames := 8, cells := 0, slots := 0, locals := 176 }
set_option maxHeartbeats 4000000 in
set_option maxRecDepth 100000 in
theorem m_X7_count (l : Launch) (D : va_G) (cy : Nat → ClassId) (sz : Nat) (S : St) (a0 : Nat) (a1 : Int32) (r : Int32) (S1 : St) (h : f_X7_count S a0 a1 = some (r, S1)) : Met l yX7_count (wsA yX7_count cX7_count 2 (some .int)) rm_X7_count (va_Pc [.ref a0, .int a1] (PN D cy S sz)) (va_Qi (fun r' (_ : Unit) => r' = r) (fun _ t => PoS D cy S1 (dm S sz) t) (dm S sz)) 0 0 (dm S sz) := by
  refine Met.ofW (cc := cX7_count) (maxL := 2) (ret := (some .int)) (by decide) rfl ?_
  intro p e s m args below meth c s₁ B hml hv
  obtain ⟨rfl, hsz, hP, hK⟩ := hv
  have hx := B.exec
  have hb := B.bytes
  have hr := B.returns
  have hts9 := atoms_spec (ws := wsA yX7_count cX7_count 2 (some .int)) B.pre
  have hts : ∀ w ∈ ALLW, w.before _ s = true := fun w h => hts9 w (List.mem_cons_of_mem _ h)
  have hown : s.vm.findClass RX7 = some m.cls := findClass_of_methodNamed B.named
  have hlocks := B.notSynchronized
  subst hsz
  have hD : ∀ a, S a ≠ none → dm S s.heap.size a := fun a h => Or.inl h
  have hA : ∀ q : Nat, s.heap.size ≤ q → dm S s.heap.size q := fun q h => Or.inr h
  have hS : va_S (dm S s.heap.size) s.heap s.heap [] := va_S.rf
  have hl := lv_entry [.ref a0, .int a1] (n := 2) (Nat.le_of_ble_eq_true rfl)
  rw [lg_entry_eq]
  generalize (lg_sl [.ref a0, .int a1] ++ List.replicate (2 - (lg_sl [.ref a0, .int a1]).length) Slot.unset).toArray = ls at hl ⊢
  have hl : lv_has ls 2 [(0, .ref a0), (1, .int a1)] := hl
  rw [f_X7_count] at h
  refine lv_aload_n hx hb dX7_count_0 rfl (lv_at hl 0 rfl) ?_
  refine lv_iload_n hx hb dX7_count_1 rfl (lv_at hl 1 rfl) ?_
  refine lv_iconst (v := 0) hx hb dX7_count_2 (by decide) ?_
  refine lv_bipush (v := 15) hx hb dX7_count_3 (by decide) ?_
  replace h := bd h
  obtain ⟨x2, q1, h⟩ := h
  refine c_X7_within ⟨hx, hb, hml, hown, hts⟩ hl.1 hK hP hS wd_938 ⟨(Nat.le_of_ble_eq_true rfl), (Nat.le_of_ble_eq_true rfl)⟩ q1 (Nat.le_of_ble_eq_true rfl) dX7_count_5 ⟨(Nat.le_of_ble_eq_true rfl), (Nat.le_of_ble_eq_true rfl)⟩ (fun H locs hP hS => ?_)
  replace h := bd h
  obtain ⟨t3, ht, h⟩ := h
  have K3 : ∀ (H : Heap) (locs : List Loc) (ls : Array Slot), SP D cy S H → (∀ a, S a ≠ none → (dm S s.heap.size) a) → va_S (dm S s.heap.size) s.heap H locs → lv_has ls 2 [(0, .ref a0), (1, .int a1)] → W p l e rm_X7_count s m ([.ref a0, .int a1] : List Value).toArray below meth c H locs 0 0 (MQ below (va_Qi (fun r' (_ : Unit) => r' = r) (fun _ t => PoS D cy S1 (dm S s.heap.size) t) (dm S s.heap.size)) ([.ref a0, .int a1] : List Value).toArray s 0 0 (dm S s.heap.size)) (F0 m 16 ls [.int t3, .ref a0]) := by
    intro H locs ls hP hD hS hl
    replace h := bd h
    obtain ⟨Z5, q6, h⟩ := h
    refine fp_6_5 hx hb hts hown hK hP hD hS wd_892 q6 dX7_count_16 (fun H locs hz9 hP hD hS => ?_)
    refine lv_aload_n hx hb dX7_count_19 rfl (lv_at hl 0 rfl) ?_
    replace h := bd h
    obtain ⟨x7, q8, h⟩ := h
    refine fg_6_5 hx hb hts hown hK hP wd_892 q8 dX7_count_20 ?_
    replace h := bd h
    obtain ⟨t9, ht, h⟩ := h
    have K9 : ∀ (H : Heap) (locs : List Loc) (ls : Array Slot), SP D cy t9.2 H → (∀ a, t9.2 a ≠ none → (dm S s.heap.size) a) → va_S (dm S s.heap.size) s.heap H locs → lv_has ls 2 [] → W p l e rm_X7_count s m ([.ref a0, .int a1] : List Value).toArray below meth c H locs 0 0 (MQ below (va_Qi (fun r' (_ : Unit) => r' = r) (fun _ t => PoS D cy S1 (dm S s.heap.size) t) (dm S s.heap.size)) ([.ref a0, .int a1] : List Value).toArray s 0 0 (dm S s.heap.size)) (F0 m 35 ls [.int t9.1]) := by
      intro H locs ls hP hD hS hl
      cases h
      exact e_im hx hb hlocks hr hP hD hS (Nat.le_of_ble_eq_true rfl) (Nat.le_of_ble_eq_true rfl) dX7_count_35
    replace h := ht
    refine lv_if_le (tgt := 30) hx hb dX7_count_23 (by decide) (fun c10 => ?_) (fun c10 => ?_)
    · replace h := ifp c10 h
      refine lv_aload_n hx hb dX7_count_30 rfl (lv_at hl 0 rfl) ?_
      refine lv_iload_n hx hb dX7_count_31 rfl (lv_at hl 1 rfl) ?_
      replace h := bd h
      obtain ⟨_, q11, h⟩ := h
      replace h := bd h
      obtain ⟨z13, q12, h⟩ := h
      refine c_X7_counted ⟨hx, hb, hml, hown, hts⟩ hl.1 hK hP hD hA hS wd_1170 ⟨(Nat.le_of_ble_eq_true rfl), (Nat.le_of_ble_eq_true rfl)⟩ q12 q11 (Nat.le_of_ble_eq_true rfl) dX7_count_32 ⟨(Nat.le_of_ble_eq_true rfl), (Nat.le_of_ble_eq_true rfl)⟩ (fun H locs hP hD hS => ?_)
      cases h
      exact K9 _ _ _ hP hD hS (lv_sub hl [] rfl)
    · replace h := ifn c10 h
      refine lv_iconst (v := 0) hx hb dX7_count_26 (by decide) ?_
      refine lv_goto (tgt := 35) hx hb dX7_count_27 (by decide) ?_
      cases h
      exact K9 _ _ _ hP hD hS (lv_sub hl [] rfl)
  replace h := ht
  refine lv_if_eq (tgt := 15) hx hb dX7_count_8 (by decide) (fun c4 => ?_) (fun c4 => ?_)
  · replace h := ifp c4 h
    refine lv_iconst (v := 1) hx hb dX7_count_15 (by decide) ?_
    cases h
    exact K3 _ _ _ hP hD hS (lv_sub hl [0, 1] rfl)
  · replace h := ifn c4 h
    refine lv_iconst (v := 0) hx hb dX7_count_11 (by decide) ?_
    refine lv_goto (tgt := 16) hx hb dX7_count_12 (by decide) ?_
    cases h
    exact K3 _ _ _ hP hD hS (lv_sub hl [0, 1] rfl)
set_option maxRecDepth 100000 in
theorem c_X7_count {p : Program} {l : Launch} {e : Env} {R : Room} {s : State} {m : MethodId} {args : Array Value} {below : List Frame} {meth : Method} {c : Code} {H : Heap} {locs : List Loc} {cells slots : Nat} {Q : State → Prop} {cc : ByteArray} {pc index nL : Nat} {ls : Array Slot} {rest : List Value} {D : va_G} {cy : Nat → ClassId} {A0 : Nat → Prop} {S : St} {H0 : Heap} {own : String} {u : Unit} {a0 : Nat} {a1 : Int32} {r : Int32} {S1 : St}  (hF : CallFix p m c cc nL s args ALLW own) (hsz : ls.size = nL) (hK : va_K D vwCl (tyL cy) s) (hP : SP D cy S H) (hD : ∀ a, S a ≠ none → A0 a) (hA : ∀ q, H0.size ≤ q → A0 q) (hS : va_S A0 H0 H locs) (hk : Cond.methodLink own index yX7_count ∈ ALLW) (hR : rm_X7_count.frames + 1 ≤ R.frames ∧ 8 + (2 + 11) + rm_X7_count.locals ≤ R.locals) (h : f_X7_count S a0 a1 = some (r, S1)) (hc : oO S a0 6 = some u) (hW : (rest.map fun v => v.category).sum ≤ 8) (hdg : decode cc pc = .ok (.invokevirtual index, 3)) (hf : cells + 0 ≤ R.cells ∧ slots + 0 ≤ R.slots)
    (kk : ∀ (H1 : Heap) (locs1 : List Loc), SP D cy S1 H1 → (∀ a, S1 a ≠ none → A0 a) → va_S A0 H0 H1 locs1 → W p l e R s m args below meth c H1 locs1 (cells + 0) (slots + 0) Q (F0 m (pc + 3) ls (.int r :: rest))) : W p l e R s m args below meth c H locs cells slots Q (F0 m pc ls (.int a1 :: .ref a0 :: rest)) := by
  exact k_iVm (As := [.int a1]) hF hsz (m_X7_count l D cy H.size S a0 a1 r S1 h) (cwV_of (n := 1) hF.2.2.2.2 hk wd_1167 wd_1168 wd_75 wd_1169 rfl rfl (by decide +kernel) hR) rfl hK hP hD hA hS (ci := 6) hc rfl hW rfl hdg hf kk
/-- VowBlocksModel.setting(I)I -/
def f_X7_setting (S : St) (a0 : Nat) (a1 : Int32) : Option (Int32 × St) :=
  (f_X7_isSetting a1).bind fun x2 =>
  (
    if x2 = 0 then
      some 1
    else
      some 0
  : Option (Int32)).bind fun t3 =>
  (pI S a0 6 5 t3).bind fun Z5 =>
  (gI Z5 a0 6 5).bind fun x7 =>
  (
    if x7 ≤ 0 then
      (gR Z5 a0 6 0).bind fun x11 =>
      (aI Z5 x11 a1).bind fun x13 =>
      some x13
    else
      some 0
  : Option (Int32)).bind fun t9 =>
  some (t9, Z5)
abbrev rm_X7_setting : Room := { frames := 2, cells := 0, slots := 0, locals := 42 }
set_option maxHeartbeats 4000000 in
set_option maxRecDepth 100000 in
theorem m_X7_setting (l : Launch) (D : va_G) (cy : Nat → ClassId) (sz : Nat) (S : St) (a0 : Nat) (a1 : Int32) (r : Int32) (S1 : St) (h : f_X7_setting S a0 a1 = some (r, S1)) : Met l yX7_setting (wsA yX7_setting cX7_setting 2 (some .int)) rm_X7_setting (va_Pc [.ref a0, .int a1] (PN D cy S sz)) (va_Qi (fun r' (_ : Unit) => r' = r) (fun _ t => PoS D cy S1 (dm S sz) t) (dm S sz)) 0 0 (dm S sz) := by
  refine Met.ofW (cc := cX7_setting) (maxL := 2) (ret := (some .int)) (by decide) rfl ?_
  intro p e s m args below meth c s₁ B hml hv
  obtain ⟨rfl, hsz, hP, hK⟩ := hv
  have hx := B.exec
  have hb := B.bytes
  have hr := B.returns
  have hts9 := atoms_spec (ws := wsA yX7_setting cX7_setting 2 (some .int)) B.pre
  have hts : ∀ w ∈ ALLW, w.before _ s = true := fun w h => hts9 w (List.mem_cons_of_mem _ h)
  have hown : s.vm.findClass RX7 = some m.cls := findClass_of_methodNamed B.named
  have hlocks := B.notSynchronized
  subst hsz
  have hD : ∀ a, S a ≠ none → dm S s.heap.size a := fun a h => Or.inl h
  have hA : ∀ q : Nat, s.heap.size ≤ q → dm S s.heap.size q := fun q h => Or.inr h
  have hS : va_S (dm S s.heap.size) s.heap s.heap [] := va_S.rf
  have hl := lv_entry [.ref a0, .int a1] (n := 2) (Nat.le_of_ble_eq_true rfl)
  rw [lg_entry_eq]
  generalize (lg_sl [.ref a0, .int a1] ++ List.replicate (2 - (lg_sl [.ref a0, .int a1]).length) Slot.unset).toArray = ls at hl ⊢
  have hl : lv_has ls 2 [(0, .ref a0), (1, .int a1)] := hl
  rw [f_X7_setting] at h
  refine lv_aload_n hx hb dX7_setting_0 rfl (lv_at hl 0 rfl) ?_
  refine lv_iload_n hx hb dX7_setting_1 rfl (lv_at hl 1 rfl) ?_
  replace h := bd h
  obtain ⟨x2, q1, h⟩ := h
  refine c_X7_isSetting ⟨hx, hb, hml, hown, hts⟩ hl.1 hK hP hS wd_1127 ⟨(Nat.le_of_ble_eq_true rfl), (Nat.le_of_ble_eq_true rfl)⟩ q1 (Nat.le_of_ble_eq_true rfl) dX7_setting_2 ⟨(Nat.le_of_ble_eq_true rfl), (Nat.le_of_ble_eq_true rfl)⟩ (fun H locs hP hS => ?_)
  replace h := bd h
  obtain ⟨t3, ht, h⟩ := h
  have K3 : ∀ (H : Heap) (locs : List Loc) (ls : Array Slot), SP D cy S H → (∀ a, S a ≠ none → (dm S s.heap.size) a) → va_S (dm S s.heap.size) s.heap H locs → lv_has ls 2 [(0, .ref a0), (1, .int a1)] → W p l e rm_X7_setting s m ([.ref a0, .int a1] : List Value).toArray below meth c H locs 0 0 (MQ below (va_Qi (fun r' (_ : Unit) => r' = r) (fun _ t => PoS D cy S1 (dm S s.heap.size) t) (dm S s.heap.size)) ([.ref a0, .int a1] : List Value).toArray s 0 0 (dm S s.heap.size)) (F0 m 13 ls [.int t3, .ref a0]) := by
    intro H locs ls hP hD hS hl
    replace h := bd h
    obtain ⟨Z5, q6, h⟩ := h
    refine fp_6_5 hx hb hts hown hK hP hD hS wd_892 q6 dX7_setting_13 (fun H locs hz9 hP hD hS => ?_)
    refine lv_aload_n hx hb dX7_setting_16 rfl (lv_at hl 0 rfl) ?_
    replace h := bd h
    obtain ⟨x7, q8, h⟩ := h
    refine fg_6_5 hx hb hts hown hK hP wd_892 q8 dX7_setting_17 ?_
    replace h := bd h
    obtain ⟨t9, ht, h⟩ := h
    have K9 : ∀ (H : Heap) (locs : List Loc) (ls : Array Slot), SP D cy Z5 H → (∀ a, Z5 a ≠ none → (dm S s.heap.size) a) → va_S (dm S s.heap.size) s.heap H locs → lv_has ls 2 [] → W p l e rm_X7_setting s m ([.ref a0, .int a1] : List Value).toArray below meth c H locs 0 0 (MQ below (va_Qi (fun r' (_ : Unit) => r' = r) (fun _ t => PoS D cy S1 (dm S s.heap.size) t) (dm S s.heap.size)) ([.ref a0, .int a1] : List Value).toArray s 0 0 (dm S s.heap.size)) (F0 m 33 ls [.int t9]) := by
      intro H locs ls hP hD hS hl
      cases h
      exact e_im hx hb hlocks hr hP hD hS (Nat.le_of_ble_eq_true rfl) (Nat.le_of_ble_eq_true rfl) dX7_setting_33
    replace h := ht
    refine lv_if_le (tgt := 27) hx hb dX7_setting_20 (by decide) (fun c10 => ?_) (fun c10 => ?_)
    · replace h := ifp c10 h
      refine lv_aload_n hx hb dX7_setting_27 rfl (lv_at hl 0 rfl) ?_
      replace h := bd h
      obtain ⟨x11, q12, h⟩ := h
      refine fg_6_0 hx hb hts hown hK hP wd_887 q12 dX7_setting_28 ?_
      refine lv_iload_n hx hb dX7_setting_31 rfl (lv_at hl 1 rfl) ?_
      replace h := bd h
      obtain ⟨x13, q14, h⟩ := h
      refine r_aI hx hb hK hP q14 dX7_setting_32 ?_
      cases h
      exact K9 _ _ _ hP hD hS (lv_sub hl [] rfl)
    · replace h := ifn c10 h
      refine lv_iconst (v := 0) hx hb dX7_setting_23 (by decide) ?_
      refine lv_goto (tgt := 33) hx hb dX7_setting_24 (by decide) ?_
      cases h
      exact K9 _ _ _ hP hD hS (lv_sub hl [] rfl)
  replace h := ht
  refine lv_if_eq (tgt := 12) hx hb dX7_setting_5 (by decide) (fun c4 => ?_) (fun c4 => ?_)
  · replace h := ifp c4 h
    refine lv_iconst (v := 1) hx hb dX7_setting_12 (by decide) ?_
    cases h
    exact K3 _ _ _ hP hD hS (lv_sub hl [0, 1] rfl)
  · replace h := ifn c4 h
    refine lv_iconst (v := 0) hx hb dX7_setting_8 (by decide) ?_
    refine lv_goto (tgt := 13) hx hb dX7_setting_9 (by decide) ?_
    cases h
    exact K3 _ _ _ hP hD hS (lv_sub hl [0, 1] rfl)
set_option maxRecDepth 100000 in
theorem c_X7_setting {p : Program} {l : Launch} {e : Env} {R : Room} {s : State} {m : MethodId} {args : Array Value} {below : List Frame} {meth : Method} {c : Code} {H : Heap} {locs : List Loc} {cells slots : Nat} {Q : State → Prop} {cc : ByteArray} {pc index nL : Nat} {ls : Array Slot} {rest : List Value} {D : va_G} {cy : Nat → ClassId} {A0 : Nat → Prop} {S : St} {H0 : Heap} {own : String} {u : Unit} {a0 : Nat} {a1 : Int32} {r : Int32} {S1 : St}  (hF : CallFix p m c cc nL s args ALLW own) (hsz : ls.size = nL) (hK : va_K D vwCl (tyL cy) s) (hP : SP D cy S H) (hD : ∀ a, S a ≠ none → A0 a) (hA : ∀ q, H0.size ≤ q → A0 q) (hS : va_S A0 H0 H locs) (hk : Cond.methodLink own index yX7_setting ∈ ALLW) (hR : rm_X7_setting.frames + 1 ≤ R.frames ∧ 8 + (2 + 11) + rm_X7_setting.locals ≤ R.locals) (h : f_X7_setting S a0 a1 = some (r, S1)) (hc : oO S a0 6 = some u) (hW : (rest.map fun v => v.category).sum ≤ 8) (hdg : decode cc pc = .ok (.invokevirtual index, 3)) (hf : cells + 0 ≤ R.cells ∧ slots + 0 ≤ R.slots)
    (kk : ∀ (H1 : Heap) (locs1 : List Loc), SP D cy S1 H1 → (∀ a, S1 a ≠ none → A0 a) → va_S A0 H0 H1 locs1 → W p l e R s m args below meth c H1 locs1 (cells + 0) (slots + 0) Q (F0 m (pc + 3) ls (.int r :: rest))) : W p l e R s m args below meth c H locs cells slots Q (F0 m pc ls (.int a1 :: .ref a0 :: rest)) := by
  exact k_iVm (As := [.int a1]) hF hsz (m_X7_setting l D cy H.size S a0 a1 r S1 h) (cwV_of (n := 1) hF.2.2.2.2 hk wd_1183 wd_1184 wd_75 wd_1185 rfl rfl (by decide +kernel) hR) rfl hK hP hD hA hS (ci := 6) hc rfl hW rfl hdg hf kk
/-- VowBlocksModel.isCode(I)Z -/
def f_X7_isCode (a0 : Int32) : Option (Int32) :=
  (f_X7_within a0 0 5).bind fun x2 =>
  (zz x2).bind fun _ =>
  some x2
abbrev rm_X7_isCode : Room := { frames := 1, cells := 0, slots := 0, locals := 22 }
set_option maxHeartbeats 4000000 in
set_option maxRecDepth 100000 in
theorem m_X7_isCode (l : Launch) (D : va_G) (cy : Nat → ClassId) (S : St) (a0 : Int32) (r : Int32) (h : f_X7_isCode a0 = some r) : Met l yX7_isCode (wsA yX7_isCode cX7_isCode 1 (some .boolean)) rm_X7_isCode (va_Pc [.int a0] (PS D cy S)) (va_Qi (fun r' (_ : Unit) => r' = r) (fun _ _ => True) noA) 0 0 noA := by
  refine Met.ofW (cc := cX7_isCode) (maxL := 1) (ret := (some .boolean)) (by decide) rfl ?_
  intro p e s m args below meth c s₁ B hml hv
  obtain ⟨rfl, hP, hK⟩ := hv
  have hx := B.exec
  have hb := B.bytes
  have hr := B.returns
  have hts9 := atoms_spec (ws := wsA yX7_isCode cX7_isCode 1 (some .boolean)) B.pre
  have hts : ∀ w ∈ ALLW, w.before _ s = true := fun w h => hts9 w (List.mem_cons_of_mem _ h)
  have hown : s.vm.findClass RX7 = some m.cls := findClass_of_methodNamed B.named
  have hlocks := B.notSynchronized
  have hS : va_S noA s.heap s.heap [] := va_S.rf
  have hl := lv_entry [.int a0] (n := 1) (Nat.le_of_ble_eq_true rfl)
  rw [lg_entry_eq]
  generalize (lg_sl [.int a0] ++ List.replicate (1 - (lg_sl [.int a0]).length) Slot.unset).toArray = ls at hl ⊢
  have hl : lv_has ls 1 [(0, .int a0)] := hl
  rw [f_X7_isCode] at h
  refine lv_iload_n hx hb dX7_isCode_0 rfl (lv_at hl 0 rfl) ?_
  refine lv_iconst (v := 0) hx hb dX7_isCode_1 (by decide) ?_
  refine lv_iconst (v := 5) hx hb dX7_isCode_2 (by decide) ?_
  replace h := bd h
  obtain ⟨x2, q1, h⟩ := h
  refine c_X7_within ⟨hx, hb, hml, hown, hts⟩ hl.1 hK hP hS wd_938 ⟨(Nat.le_of_ble_eq_true rfl), (Nat.le_of_ble_eq_true rfl)⟩ q1 (Nat.le_of_ble_eq_true rfl) dX7_isCode_3 ⟨(Nat.le_of_ble_eq_true rfl), (Nat.le_of_ble_eq_true rfl)⟩ (fun H locs hP hS => ?_)
  replace h := bd h
  obtain ⟨_, q3, h⟩ := h
  cases h
  exact e_zp hx hb hlocks (zz_spec q3) hr hS (Nat.le_of_ble_eq_true rfl) (Nat.le_of_ble_eq_true rfl) dX7_isCode_6
set_option maxRecDepth 100000 in
theorem c_X7_isCode {p : Program} {l : Launch} {e : Env} {R : Room} {s : State} {m : MethodId} {args : Array Value} {below : List Frame} {meth : Method} {c : Code} {H : Heap} {locs : List Loc} {cells slots : Nat} {Q : State → Prop} {cc : ByteArray} {pc index nL : Nat} {ls : Array Slot} {rest : List Value} {D : va_G} {cy : Nat → ClassId} {A0 : Nat → Prop} {S : St} {H0 : Heap} {own : String} {a0 : Int32} {r : Int32}  (hF : CallFix p m c cc nL s args ALLW own) (hsz : ls.size = nL) (hK : va_K D vwCl (tyL cy) s) (hP : SP D cy S H) (hS : va_S A0 H0 H locs) (hk : Cond.methodLink own index yX7_isCode ∈ ALLW) (hR : rm_X7_isCode.frames + 1 ≤ R.frames ∧ 8 + (1 + 11) + rm_X7_isCode.locals ≤ R.locals) (h : f_X7_isCode a0 = some r) (hW : (rest.map fun v => v.category).sum ≤ 8) (hdg : decode cc pc = .ok (.invokestatic index, 3)) (hf : cells + 0 ≤ R.cells ∧ slots + 0 ≤ R.slots)
    (kk : ∀ (H1 : Heap) (locs1 : List Loc), SP D cy S H1 → va_S A0 H0 H1 locs1 → W p l e R s m args below meth c H1 locs1 (cells + 0) (slots + 0) Q (F0 m (pc + 3) ls (.int r :: rest))) : W p l e R s m args below meth c H locs cells slots Q (F0 m pc ls (.int a0 :: rest)) := by
  exact k_iSp (As := [.int a0]) hF hsz (m_X7_isCode l D cy S a0 r h) (cwS_of (n := 1) hF.2.2.2.2 hk wd_1191 wd_75 wd_1192 rfl rfl (by decide +kernel) hR) rfl hK hP hS hW rfl hdg hf kk
/-- VowBlocksModel.costNow(II)I -/
def f_X7_costNow (S : St) (a0 : Nat) (a1 : Int32) (a2 : Int32) : Option (Int32 × St) :=
  (oO S a0 6).bind fun _ =>
  (f_X7_lay S a0 a1).bind fun z3 =>
  (oO z3 a0 6).bind fun _ =>
  (f_X7_costBy z3 a0 a2).bind fun x6 =>
  some (x6, z3)
abbrev rm_X7_costNow : Room := { frames := 4, cells := 0, slots := 0, locals := 87 }
set_option maxHeartbeats 4000000 in
set_option maxRecDepth 100000 in
theorem m_X7_costNow (l : Launch) (D : va_G) (cy : Nat → ClassId) (sz : Nat) (S : St) (a0 : Nat) (a1 : Int32) (a2 : Int32) (r : Int32) (S1 : St) (h : f_X7_costNow S a0 a1 a2 = some (r, S1)) : Met l yX7_costNow (wsA yX7_costNow cX7_costNow 3 (some .int)) rm_X7_costNow (va_Pc [.ref a0, .int a1, .int a2] (PN D cy S sz)) (va_Qi (fun r' (_ : Unit) => r' = r) (fun _ t => PoS D cy S1 (dm S sz) t) (dm S sz)) 0 0 (dm S sz) := by
  refine Met.ofW (cc := cX7_costNow) (maxL := 3) (ret := (some .int)) (by decide) rfl ?_
  intro p e s m args below meth c s₁ B hml hv
  obtain ⟨rfl, hsz, hP, hK⟩ := hv
  have hx := B.exec
  have hb := B.bytes
  have hr := B.returns
  have hts9 := atoms_spec (ws := wsA yX7_costNow cX7_costNow 3 (some .int)) B.pre
  have hts : ∀ w ∈ ALLW, w.before _ s = true := fun w h => hts9 w (List.mem_cons_of_mem _ h)
  have hown : s.vm.findClass RX7 = some m.cls := findClass_of_methodNamed B.named
  have hlocks := B.notSynchronized
  subst hsz
  have hD : ∀ a, S a ≠ none → dm S s.heap.size a := fun a h => Or.inl h
  have hA : ∀ q : Nat, s.heap.size ≤ q → dm S s.heap.size q := fun q h => Or.inr h
  have hS : va_S (dm S s.heap.size) s.heap s.heap [] := va_S.rf
  have hl := lv_entry [.ref a0, .int a1, .int a2] (n := 3) (Nat.le_of_ble_eq_true rfl)
  rw [lg_entry_eq]
  generalize (lg_sl [.ref a0, .int a1, .int a2] ++ List.replicate (3 - (lg_sl [.ref a0, .int a1, .int a2]).length) Slot.unset).toArray = ls at hl ⊢
  have hl : lv_has ls 3 [(0, .ref a0), (1, .int a1), (2, .int a2)] := hl
  rw [f_X7_costNow] at h
  refine lv_aload_n hx hb dX7_costNow_0 rfl (lv_at hl 0 rfl) ?_
  refine lv_iload_n hx hb dX7_costNow_1 rfl (lv_at hl 1 rfl) ?_
  replace h := bd h
  obtain ⟨_, q1, h⟩ := h
  replace h := bd h
  obtain ⟨z3, q2, h⟩ := h
  refine c_X7_lay ⟨hx, hb, hml, hown, hts⟩ hl.1 hK hP hD hA hS wd_957 ⟨(Nat.le_of_ble_eq_true rfl), (Nat.le_of_ble_eq_true rfl)⟩ q2 q1 (Nat.le_of_ble_eq_true rfl) dX7_costNow_2 ⟨(Nat.le_of_ble_eq_true rfl), (Nat.le_of_ble_eq_true rfl)⟩ (fun H locs hP hD hS => ?_)
  refine lv_aload_n hx hb dX7_costNow_5 rfl (lv_at hl 0 rfl) ?_
  refine lv_iload_n hx hb dX7_costNow_6 rfl (lv_at hl 2 rfl) ?_
  replace h := bd h
  obtain ⟨_, q4, h⟩ := h
  replace h := bd h
  obtain ⟨x6, q5, h⟩ := h
  refine c_X7_costBy ⟨hx, hb, hml, hown, hts⟩ hl.1 hK hP hS wd_969 ⟨(Nat.le_of_ble_eq_true rfl), (Nat.le_of_ble_eq_true rfl)⟩ q5 q4 (Nat.le_of_ble_eq_true rfl) dX7_costNow_7 ⟨(Nat.le_of_ble_eq_true rfl), (Nat.le_of_ble_eq_true rfl)⟩ (fun H locs hP hS => ?_)
  cases h
  exact e_im hx hb hlocks hr hP hD hS (Nat.le_of_ble_eq_true rfl) (Nat.le_of_ble_eq_true rfl) dX7_costNow_10
set_option maxRecDepth 100000 in
theorem c_X7_costNow {p : Program} {l : Launch} {e : Env} {R : Room} {s : State} {m : MethodId} {args : Array Value} {below : List Frame} {meth : Method} {c : Code} {H : Heap} {locs : List Loc} {cells slots : Nat} {Q : State → Prop} {cc : ByteArray} {pc index nL : Nat} {ls : Array Slot} {rest : List Value} {D : va_G} {cy : Nat → ClassId} {A0 : Nat → Prop} {S : St} {H0 : Heap} {own : String} {u : Unit} {a0 : Nat} {a1 : Int32} {a2 : Int32} {r : Int32} {S1 : St}  (hF : CallFix p m c cc nL s args ALLW own) (hsz : ls.size = nL) (hK : va_K D vwCl (tyL cy) s) (hP : SP D cy S H) (hD : ∀ a, S a ≠ none → A0 a) (hA : ∀ q, H0.size ≤ q → A0 q) (hS : va_S A0 H0 H locs) (hk : Cond.methodLink own index yX7_costNow ∈ ALLW) (hR : rm_X7_costNow.frames + 1 ≤ R.frames ∧ 8 + (3 + 11) + rm_X7_costNow.locals ≤ R.locals) (h : f_X7_costNow S a0 a1 a2 = some (r, S1)) (hc : oO S a0 6 = some u) (hW : (rest.map fun v => v.category).sum ≤ 8) (hdg : decode cc pc = .ok (.invokevirtual index, 3)) (hf : cells + 0 ≤ R.cells ∧ slots + 0 ≤ R.slots)
    (kk : ∀ (H1 : Heap) (locs1 : List Loc), SP D cy S1 H1 → (∀ a, S1 a ≠ none → A0 a) → va_S A0 H0 H1 locs1 → W p l e R s m args below meth c H1 locs1 (cells + 0) (slots + 0) Q (F0 m (pc + 3) ls (.int r :: rest))) : W p l e R s m args below meth c H locs cells slots Q (F0 m pc ls (.int a2 :: .int a1 :: .ref a0 :: rest)) := by
  exact k_iVm (As := [.int a1, .int a2]) hF hsz (m_X7_costNow l D cy H.size S a0 a1 a2 r S1 h) (cwV_of (n := 2) hF.2.2.2.2 hk wd_1195 wd_59 wd_75 wd_1196 rfl rfl (by decide +kernel) hR) rfl hK hP hD hA hS (ci := 6) hc rfl hW rfl hdg hf kk
/-- VowBlocksModel.cost(II)I -/
def f_X7_cost (S : St) (a0 : Nat) (a1 : Int32) (a2 : Int32) : Option (Int32 × St) :=
  (oO S a0 6).bind fun _ =>
  (f_X7_isBlock S a0 a1).bind fun x3 =>
  (
    if x3 = 0 then
      some 1
    else
      (f_X7_isCode a2).bind fun x7 =>
      if x7 = 0 then
        some 2
      else
        some 0
  : Option (Int32)).bind fun t4 =>
  (pI S a0 6 5 t4).bind fun Z9 =>
  (gI Z9 a0 6 5).bind fun x11 =>
  (
    if x11 ≤ 0 then
      (oO Z9 a0 6).bind fun _ =>
      (f_X7_costNow Z9 a0 a1 a2).bind fun z17 =>
      some (z17.1, z17.2)
    else
      some (0, Z9)
  : Option (Int32 × St)).bind fun t13 =>
  some (t13.1, t13.2)
abbrev rm_X7_cost : Room := { frames := 5, cells := 0, slots := 0, locals := 109 }
set_option maxHeartbeats 4000000 in
set_option maxRecDepth 100000 in
theorem m_X7_cost (l : Launch) (D : va_G) (cy : Nat → ClassId) (sz : Nat) (S : St) (a0 : Nat) (a1 : Int32) (a2 : Int32) (r : Int32) (S1 : St) (h : f_X7_cost S a0 a1 a2 = some (r, S1)) : Met l yX7_cost (wsA yX7_cost cX7_cost 3 (some .int)) rm_X7_cost (va_Pc [.ref a0, .int a1, .int a2] (PN D cy S sz)) (va_Qi (fun r' (_ : Unit) => r' = r) (fun _ t => PoS D cy S1 (dm S sz) t) (dm S sz)) 0 0 (dm S sz) := by
  refine Met.ofW (cc := cX7_cost) (maxL := 3) (ret := (some .int)) (by decide) rfl ?_
  intro p e s m args below meth c s₁ B hml hv
  obtain ⟨rfl, hsz, hP, hK⟩ := hv
  have hx := B.exec
  have hb := B.bytes
  have hr := B.returns
  have hts9 := atoms_spec (ws := wsA yX7_cost cX7_cost 3 (some .int)) B.pre
  have hts : ∀ w ∈ ALLW, w.before _ s = true := fun w h => hts9 w (List.mem_cons_of_mem _ h)
  have hown : s.vm.findClass RX7 = some m.cls := findClass_of_methodNamed B.named
  have hlocks := B.notSynchronized
  subst hsz
  have hD : ∀ a, S a ≠ none → dm S s.heap.size a := fun a h => Or.inl h
  have hA : ∀ q : Nat, s.heap.size ≤ q → dm S s.heap.size q := fun q h => Or.inr h
  have hS : va_S (dm S s.heap.size) s.heap s.heap [] := va_S.rf
  have hl := lv_entry [.ref a0, .int a1, .int a2] (n := 3) (Nat.le_of_ble_eq_true rfl)
  rw [lg_entry_eq]
  generalize (lg_sl [.ref a0, .int a1, .int a2] ++ List.replicate (3 - (lg_sl [.ref a0, .int a1, .int a2]).length) Slot.unset).toArray = ls at hl ⊢
  have hl : lv_has ls 3 [(0, .ref a0), (1, .int a1), (2, .int a2)] := hl
  rw [f_X7_cost] at h
  refine lv_aload_n hx hb dX7_cost_0 rfl (lv_at hl 0 rfl) ?_
  refine lv_aload_n hx hb dX7_cost_1 rfl (lv_at hl 0 rfl) ?_
  refine lv_iload_n hx hb dX7_cost_2 rfl (lv_at hl 1 rfl) ?_
  replace h := bd h
  obtain ⟨_, q1, h⟩ := h
  replace h := bd h
  obtain ⟨x3, q2, h⟩ := h
  refine c_X7_isBlock ⟨hx, hb, hml, hown, hts⟩ hl.1 hK hP hS wd_1044 ⟨(Nat.le_of_ble_eq_true rfl), (Nat.le_of_ble_eq_true rfl)⟩ q2 q1 (Nat.le_of_ble_eq_true rfl) dX7_cost_3 ⟨(Nat.le_of_ble_eq_true rfl), (Nat.le_of_ble_eq_true rfl)⟩ (fun H locs hP hS => ?_)
  replace h := bd h
  obtain ⟨t4, ht, h⟩ := h
  have K4 : ∀ (H : Heap) (locs : List Loc) (ls : Array Slot), SP D cy S H → (∀ a, S a ≠ none → (dm S s.heap.size) a) → va_S (dm S s.heap.size) s.heap H locs → lv_has ls 3 [(0, .ref a0), (1, .int a1), (2, .int a2)] → W p l e rm_X7_cost s m ([.ref a0, .int a1, .int a2] : List Value).toArray below meth c H locs 0 0 (MQ below (va_Qi (fun r' (_ : Unit) => r' = r) (fun _ t => PoS D cy S1 (dm S s.heap.size) t) (dm S s.heap.size)) ([.ref a0, .int a1, .int a2] : List Value).toArray s 0 0 (dm S s.heap.size)) (F0 m 25 ls [.int t4, .ref a0]) := by
    intro H locs ls hP hD hS hl
    replace h := bd h
    obtain ⟨Z9, q10, h⟩ := h
    refine fp_6_5 hx hb hts hown hK hP hD hS wd_892 q10 dX7_cost_25 (fun H locs hz9 hP hD hS => ?_)
    refine lv_aload_n hx hb dX7_cost_28 rfl (lv_at hl 0 rfl) ?_
    replace h := bd h
    obtain ⟨x11, q12, h⟩ := h
    refine fg_6_5 hx hb hts hown hK hP wd_892 q12 dX7_cost_29 ?_
    replace h := bd h
    obtain ⟨t13, ht, h⟩ := h
    have K13 : ∀ (H : Heap) (locs : List Loc) (ls : Array Slot), SP D cy t13.2 H → (∀ a, t13.2 a ≠ none → (dm S s.heap.size) a) → va_S (dm S s.heap.size) s.heap H locs → lv_has ls 3 [] → W p l e rm_X7_cost s m ([.ref a0, .int a1, .int a2] : List Value).toArray below meth c H locs 0 0 (MQ below (va_Qi (fun r' (_ : Unit) => r' = r) (fun _ t => PoS D cy S1 (dm S s.heap.size) t) (dm S s.heap.size)) ([.ref a0, .int a1, .int a2] : List Value).toArray s 0 0 (dm S s.heap.size)) (F0 m 45 ls [.int t13.1]) := by
      intro H locs ls hP hD hS hl
      cases h
      exact e_im hx hb hlocks hr hP hD hS (Nat.le_of_ble_eq_true rfl) (Nat.le_of_ble_eq_true rfl) dX7_cost_45
    replace h := ht
    refine lv_if_le (tgt := 39) hx hb dX7_cost_32 (by decide) (fun c14 => ?_) (fun c14 => ?_)
    · replace h := ifp c14 h
      refine lv_aload_n hx hb dX7_cost_39 rfl (lv_at hl 0 rfl) ?_
      refine lv_iload_n hx hb dX7_cost_40 rfl (lv_at hl 1 rfl) ?_
      refine lv_iload_n hx hb dX7_cost_41 rfl (lv_at hl 2 rfl) ?_
      replace h := bd h
      obtain ⟨_, q15, h⟩ := h
      replace h := bd h
      obtain ⟨z17, q16, h⟩ := h
      refine c_X7_costNow ⟨hx, hb, hml, hown, hts⟩ hl.1 hK hP hD hA hS wd_1193 ⟨(Nat.le_of_ble_eq_true rfl), (Nat.le_of_ble_eq_true rfl)⟩ q16 q15 (Nat.le_of_ble_eq_true rfl) dX7_cost_42 ⟨(Nat.le_of_ble_eq_true rfl), (Nat.le_of_ble_eq_true rfl)⟩ (fun H locs hP hD hS => ?_)
      cases h
      exact K13 _ _ _ hP hD hS (lv_sub hl [] rfl)
    · replace h := ifn c14 h
      refine lv_iconst (v := 0) hx hb dX7_cost_35 (by decide) ?_
      refine lv_goto (tgt := 45) hx hb dX7_cost_36 (by decide) ?_
      cases h
      exact K13 _ _ _ hP hD hS (lv_sub hl [] rfl)
  replace h := ht
  refine lv_if_ne (tgt := 13) hx hb dX7_cost_6 (by decide) (fun c5 => ?_) (fun c5 => ?_)
  · replace h := ifn c5 h
    refine lv_iload_n hx hb dX7_cost_13 rfl (lv_at hl 2 rfl) ?_
    replace h := bd h
    obtain ⟨x7, q6, h⟩ := h
    refine c_X7_isCode ⟨hx, hb, hml, hown, hts⟩ hl.1 hK hP hS wd_1190 ⟨(Nat.le_of_ble_eq_true rfl), (Nat.le_of_ble_eq_true rfl)⟩ q6 (Nat.le_of_ble_eq_true rfl) dX7_cost_14 ⟨(Nat.le_of_ble_eq_true rfl), (Nat.le_of_ble_eq_true rfl)⟩ (fun H locs hP hS => ?_)
    refine lv_if_eq (tgt := 24) hx hb dX7_cost_17 (by decide) (fun c8 => ?_) (fun c8 => ?_)
    · replace h := ifp c8 h
      refine lv_iconst (v := 2) hx hb dX7_cost_24 (by decide) ?_
      cases h
      exact K4 _ _ _ hP hD hS (lv_sub hl [0, 1, 2] rfl)
    · replace h := ifn c8 h
      refine lv_iconst (v := 0) hx hb dX7_cost_20 (by decide) ?_
      refine lv_goto (tgt := 25) hx hb dX7_cost_21 (by decide) ?_
      cases h
      exact K4 _ _ _ hP hD hS (lv_sub hl [0, 1, 2] rfl)
  · replace h := ifp c5 h
    refine lv_iconst (v := 1) hx hb dX7_cost_9 (by decide) ?_
    refine lv_goto (tgt := 25) hx hb dX7_cost_10 (by decide) ?_
    cases h
    exact K4 _ _ _ hP hD hS (lv_sub hl [0, 1, 2] rfl)
set_option maxRecDepth 100000 in
theorem c_X7_cost {p : Program} {l : Launch} {e : Env} {R : Room} {s : State} {m : MethodId} {args : Array Value} {below : List Frame} {meth : Method} {c : Code} {H : Heap} {locs : List Loc} {cells slots : Nat} {Q : State → Prop} {cc : ByteArray} {pc index nL : Nat} {ls : Array Slot} {rest : List Value} {D : va_G} {cy : Nat → ClassId} {A0 : Nat → Prop} {S : St} {H0 : Heap} {own : String} {u : Unit} {a0 : Nat} {a1 : Int32} {a2 : Int32} {r : Int32} {S1 : St}  (hF : CallFix p m c cc nL s args ALLW own) (hsz : ls.size = nL) (hK : va_K D vwCl (tyL cy) s) (hP : SP D cy S H) (hD : ∀ a, S a ≠ none → A0 a) (hA : ∀ q, H0.size ≤ q → A0 q) (hS : va_S A0 H0 H locs) (hk : Cond.methodLink own index yX7_cost ∈ ALLW) (hR : rm_X7_cost.frames + 1 ≤ R.frames ∧ 8 + (3 + 11) + rm_X7_cost.locals ≤ R.locals) (h : f_X7_cost S a0 a1 a2 = some (r, S1)) (hc : oO S a0 6 = some u) (hW : (rest.map fun v => v.category).sum ≤ 8) (hdg : decode cc pc = .ok (.invokevirtual index, 3)) (hf : cells + 0 ≤ R.cells ∧ slots + 0 ≤ R.slots)
    (kk : ∀ (H1 : Heap) (locs1 : List Loc), SP D cy S1 H1 → (∀ a, S1 a ≠ none → A0 a) → va_S A0 H0 H1 locs1 → W p l e R s m args below meth c H1 locs1 (cells + 0) (slots + 0) Q (F0 m (pc + 3) ls (.int r :: rest))) : W p l e R s m args below meth c H locs cells slots Q (F0 m pc ls (.int a2 :: .int a1 :: .ref a0 :: rest)) := by
  exact k_iVm (As := [.int a1, .int a2]) hF hsz (m_X7_cost l D cy H.size S a0 a1 a2 r S1 h) (cwV_of (n := 2) hF.2.2.2.2 hk wd_1187 wd_1188 wd_75 wd_1189 rfl rfl (by decide +kernel) hR) rfl hK hP hD hA hS (ci := 6) hc rfl hW rfl hdg hf kk
/-- VowBlocksModel.workNow(IIII)I -/
def f_X7_workNow (S : St) (a0 : Nat) (a1 : Int32) (a2 : Int32) (a3 : Int32) (a4 : Int32) : Option (Int32 × St) :=
  (oO S a0 6).bind fun _ =>
  (f_X7_lay S a0 a1).bind fun z3 =>
  (oO z3 a0 6).bind fun _ =>
  (f_X7_workBy z3 a0 a2 a3 a4).bind fun x6 =>
  some (x6, z3)
abbrev rm_X7_workNow : Room := { frames := 4, cells := 0, slots := 0, locals := 92 }
set_option maxHeartbeats 4000000 in
set_option maxRecDepth 100000 in
theorem m_X7_workNow (l : Launch) (D : va_G) (cy : Nat → ClassId) (sz : Nat) (S : St) (a0 : Nat) (a1 : Int32) (a2 : Int32) (a3 : Int32) (a4 : Int32) (r : Int32) (S1 : St) (h : f_X7_workNow S a0 a1 a2 a3 a4 = some (r, S1)) : Met l yX7_workNow (wsA yX7_workNow cX7_workNow 5 (some .int)) rm_X7_workNow (va_Pc [.ref a0, .int a1, .int a2, .int a3, .int a4] (PN D cy S sz)) (va_Qi (fun r' (_ : Unit) => r' = r) (fun _ t => PoS D cy S1 (dm S sz) t) (dm S sz)) 0 0 (dm S sz) := by
  refine Met.ofW (cc := cX7_workNow) (maxL := 5) (ret := (some .int)) (by decide) rfl ?_
  intro p e s m args below meth c s₁ B hml hv
  obtain ⟨rfl, hsz, hP, hK⟩ := hv
  have hx := B.exec
  have hb := B.bytes
  have hr := B.returns
  have hts9 := atoms_spec (ws := wsA yX7_workNow cX7_workNow 5 (some .int)) B.pre
  have hts : ∀ w ∈ ALLW, w.before _ s = true := fun w h => hts9 w (List.mem_cons_of_mem _ h)
  have hown : s.vm.findClass RX7 = some m.cls := findClass_of_methodNamed B.named
  have hlocks := B.notSynchronized
  subst hsz
  have hD : ∀ a, S a ≠ none → dm S s.heap.size a := fun a h => Or.inl h
  have hA : ∀ q : Nat, s.heap.size ≤ q → dm S s.heap.size q := fun q h => Or.inr h
  have hS : va_S (dm S s.heap.size) s.heap s.heap [] := va_S.rf
  have hl := lv_entry [.ref a0, .int a1, .int a2, .int a3, .int a4] (n := 5) (Nat.le_of_ble_eq_true rfl)
  rw [lg_entry_eq]
  generalize (lg_sl [.ref a0, .int a1, .int a2, .int a3, .int a4] ++ List.replicate (5 - (lg_sl [.ref a0, .int a1, .int a2, .int a3, .int a4]).length) Slot.unset).toArray = ls at hl ⊢
  have hl : lv_has ls 5 [(0, .ref a0), (1, .int a1), (2, .int a2), (3, .int a3), (4, .int a4)] := hl
  rw [f_X7_workNow] at h
  refine lv_aload_n hx hb dX7_workNow_0 rfl (lv_at hl 0 rfl) ?_
  refine lv_iload_n hx hb dX7_workNow_1 rfl (lv_at hl 1 rfl) ?_
  replace h := bd h
  obtain ⟨_, q1, h⟩ := h
  replace h := bd h
  obtain ⟨z3, q2, h⟩ := h
  refine c_X7_lay ⟨hx, hb, hml, hown, hts⟩ hl.1 hK hP hD hA hS wd_957 ⟨(Nat.le_of_ble_eq_true rfl), (Nat.le_of_ble_eq_true rfl)⟩ q2 q1 (Nat.le_of_ble_eq_true rfl) dX7_workNow_2 ⟨(Nat.le_of_ble_eq_true rfl), (Nat.le_of_ble_eq_true rfl)⟩ (fun H locs hP hD hS => ?_)
  refine lv_aload_n hx hb dX7_workNow_5 rfl (lv_at hl 0 rfl) ?_
  refine lv_iload_n hx hb dX7_workNow_6 rfl (lv_at hl 2 rfl) ?_
  refine lv_iload_n hx hb dX7_workNow_7 rfl (lv_at hl 3 rfl) ?_
  refine lv_iload hx hb dX7_workNow_8 (lv_at hl 4 rfl) ?_
  replace h := bd h
  obtain ⟨_, q4, h⟩ := h
  replace h := bd h
  obtain ⟨x6, q5, h⟩ := h
  refine c_X7_workBy ⟨hx, hb, hml, hown, hts⟩ hl.1 hK hP hS wd_1115 ⟨(Nat.le_of_ble_eq_true rfl), (Nat.le_of_ble_eq_true rfl)⟩ q5 q4 (Nat.le_of_ble_eq_true rfl) dX7_workNow_10 ⟨(Nat.le_of_ble_eq_true rfl), (Nat.le_of_ble_eq_true rfl)⟩ (fun H locs hP hS => ?_)
  cases h
  exact e_im hx hb hlocks hr hP hD hS (Nat.le_of_ble_eq_true rfl) (Nat.le_of_ble_eq_true rfl) dX7_workNow_13
set_option maxRecDepth 100000 in
theorem c_X7_workNow {p : Program} {l : Launch} {e : Env} {R : Room} {s : State} {m : MethodId} {args : Array Value} {below : List Frame} {meth : Method} {c : Code} {H : Heap} {locs : List Loc} {cells slots : Nat} {Q : State → Prop} {cc : ByteArray} {pc index nL : Nat} {ls : Array Slot} {rest : List Value} {D : va_G} {cy : Nat → ClassId} {A0 : Nat → Prop} {S : St} {H0 : Heap} {own : String} {u : Unit} {a0 : Nat} {a1 : Int32} {a2 : Int32} {a3 : Int32} {a4 : Int32} {r : Int32} {S1 : St}  (hF : CallFix p m c cc nL s args ALLW own) (hsz : ls.size = nL) (hK : va_K D vwCl (tyL cy) s) (hP : SP D cy S H) (hD : ∀ a, S a ≠ none → A0 a) (hA : ∀ q, H0.size ≤ q → A0 q) (hS : va_S A0 H0 H locs) (hk : Cond.methodLink own index yX7_workNow ∈ ALLW) (hR : rm_X7_workNow.frames + 1 ≤ R.frames ∧ 8 + (5 + 11) + rm_X7_workNow.locals ≤ R.locals) (h : f_X7_workNow S a0 a1 a2 a3 a4 = some (r, S1)) (hc : oO S a0 6 = some u) (hW : (rest.map fun v => v.category).sum ≤ 8) (hdg : decode cc pc = .ok (.invokevirtual index, 3)) (hf : cells + 0 ≤ R.cells ∧ slots + 0 ≤ R.slots)
    (kk : ∀ (H1 : Heap) (locs1 : List Loc), SP D cy S1 H1 → (∀ a, S1 a ≠ none → A0 a) → va_S A0 H0 H1 locs1 → W p l e R s m args below meth c H1 locs1 (cells + 0) (slots + 0) Q (F0 m (pc + 3) ls (.int r :: rest))) : W p l e R s m args below meth c H locs cells slots Q (F0 m pc ls (.int a4 :: .int a3 :: .int a2 :: .int a1 :: .ref a0 :: rest)) := by
  exact k_iVm (As := [.int a1, .int a2, .int a3, .int a4]) hF hsz (m_X7_workNow l D cy H.size S a0 a1 a2 a3 a4 r S1 h) (cwV_of (n := 4) hF.2.2.2.2 hk wd_1203 wd_60 wd_75 wd_1204 rfl rfl (by decide +kernel) hR) rfl hK hP hD hA hS (ci := 6) hc rfl hW rfl hdg hf kk
/-- VowBlocksModel.work(IIII)I -/
def f_X7_work (S : St) (a0 : Nat) (a1 : Int32) (a2 : Int32) (a3 : Int32) (a4 : Int32) : Option (Int32 × St) :=
  (oO S a0 6).bind fun _ =>
  (f_X7_isBlock S a0 a1).bind fun x3 =>
  (
    if x3 = 0 then
      some 1
    else
      (f_X7_isCode a2).bind fun x7 =>
      if x7 = 0 then
        some 2
      else
        (f_X7_isQuestion a3).bind fun x10 =>
        if x10 = 0 then
          some 2
        else
          (f_X7_isValue a4).bind fun x13 =>
          if x13 = 0 then
            some 2
          else
            some 0
  : Option (Int32)).bind fun t4 =>
  (pI S a0 6 5 t4).bind fun Z15 =>
  (gI Z15 a0 6 5).bind fun x17 =>
  (
    if x17 ≤ 0 then
      (oO Z15 a0 6).bind fun _ =>
      (f_X7_workNow Z15 a0 a1 a2 a3 a4).bind fun z23 =>
      some (z23.1, z23.2)
    else
      some (0, Z15)
  : Option (Int32 × St)).bind fun t19 =>
  some (t19.1, t19.2)
abbrev rm_X7_work : Room := { frames := 5, cells := 0, slots := 0, locals := 116 }
set_option maxHeartbeats 4000000 in
set_option maxRecDepth 100000 in
theorem m_X7_work (l : Launch) (D : va_G) (cy : Nat → ClassId) (sz : Nat) (S : St) (a0 : Nat) (a1 : Int32) (a2 : Int32) (a3 : Int32) (a4 : Int32) (r : Int32) (S1 : St) (h : f_X7_work S a0 a1 a2 a3 a4 = some (r, S1)) : Met l yX7_work (wsA yX7_work cX7_work 5 (some .int)) rm_X7_work (va_Pc [.ref a0, .int a1, .int a2, .int a3, .int a4] (PN D cy S sz)) (va_Qi (fun r' (_ : Unit) => r' = r) (fun _ t => PoS D cy S1 (dm S sz) t) (dm S sz)) 0 0 (dm S sz) := by
  refine Met.ofW (cc := cX7_work) (maxL := 5) (ret := (some .int)) (by decide) rfl ?_
  intro p e s m args below meth c s₁ B hml hv
  obtain ⟨rfl, hsz, hP, hK⟩ := hv
  have hx := B.exec
  have hb := B.bytes
  have hr := B.returns
  have hts9 := atoms_spec (ws := wsA yX7_work cX7_work 5 (some .int)) B.pre
  have hts : ∀ w ∈ ALLW, w.before _ s = true := fun w h => hts9 w (List.mem_cons_of_mem _ h)
  have hown : s.vm.findClass RX7 = some m.cls := findClass_of_methodNamed B.named
  have hlocks := B.notSynchronized
  subst hsz
  have hD : ∀ a, S a ≠ none → dm S s.heap.size a := fun a h => Or.inl h
  have hA : ∀ q : Nat, s.heap.size ≤ q → dm S s.heap.size q := fun q h => Or.inr h
  have hS : va_S (dm S s.heap.size) s.heap s.heap [] := va_S.rf
  have hl := lv_entry [.ref a0, .int a1, .int a2, .int a3, .int a4] (n := 5) (Nat.le_of_ble_eq_true rfl)
  rw [lg_entry_eq]
  generalize (lg_sl [.ref a0, .int a1, .int a2, .int a3, .int a4] ++ List.replicate (5 - (lg_sl [.ref a0, .int a1, .int a2, .int a3, .int a4]).length) Slot.unset).toArray = ls at hl ⊢
  have hl : lv_has ls 5 [(0, .ref a0), (1, .int a1), (2, .int a2), (3, .int a3), (4, .int a4)] := hl
  rw [f_X7_work] at h
  refine lv_aload_n hx hb dX7_work_0 rfl (lv_at hl 0 rfl) ?_
  refine lv_aload_n hx hb dX7_work_1 rfl (lv_at hl 0 rfl) ?_
  refine lv_iload_n hx hb dX7_work_2 rfl (lv_at hl 1 rfl) ?_
  replace h := bd h
  obtain ⟨_, q1, h⟩ := h
  replace h := bd h
  obtain ⟨x3, q2, h⟩ := h
  refine c_X7_isBlock ⟨hx, hb, hml, hown, hts⟩ hl.1 hK hP hS wd_1044 ⟨(Nat.le_of_ble_eq_true rfl), (Nat.le_of_ble_eq_true rfl)⟩ q2 q1 (Nat.le_of_ble_eq_true rfl) dX7_work_3 ⟨(Nat.le_of_ble_eq_true rfl), (Nat.le_of_ble_eq_true rfl)⟩ (fun H locs hP hS => ?_)
  replace h := bd h
  obtain ⟨t4, ht, h⟩ := h
  have K4 : ∀ (H : Heap) (locs : List Loc) (ls : Array Slot), SP D cy S H → (∀ a, S a ≠ none → (dm S s.heap.size) a) → va_S (dm S s.heap.size) s.heap H locs → lv_has ls 5 [(0, .ref a0), (1, .int a1), (2, .int a2), (3, .int a3), (4, .int a4)] → W p l e rm_X7_work s m ([.ref a0, .int a1, .int a2, .int a3, .int a4] : List Value).toArray below meth c H locs 0 0 (MQ below (va_Qi (fun r' (_ : Unit) => r' = r) (fun _ t => PoS D cy S1 (dm S s.heap.size) t) (dm S s.heap.size)) ([.ref a0, .int a1, .int a2, .int a3, .int a4] : List Value).toArray s 0 0 (dm S s.heap.size)) (F0 m 40 ls [.int t4, .ref a0]) := by
    intro H locs ls hP hD hS hl
    replace h := bd h
    obtain ⟨Z15, q16, h⟩ := h
    refine fp_6_5 hx hb hts hown hK hP hD hS wd_892 q16 dX7_work_40 (fun H locs hz9 hP hD hS => ?_)
    refine lv_aload_n hx hb dX7_work_43 rfl (lv_at hl 0 rfl) ?_
    replace h := bd h
    obtain ⟨x17, q18, h⟩ := h
    refine fg_6_5 hx hb hts hown hK hP wd_892 q18 dX7_work_44 ?_
    replace h := bd h
    obtain ⟨t19, ht, h⟩ := h
    have K19 : ∀ (H : Heap) (locs : List Loc) (ls : Array Slot), SP D cy t19.2 H → (∀ a, t19.2 a ≠ none → (dm S s.heap.size) a) → va_S (dm S s.heap.size) s.heap H locs → lv_has ls 5 [] → W p l e rm_X7_work s m ([.ref a0, .int a1, .int a2, .int a3, .int a4] : List Value).toArray below meth c H locs 0 0 (MQ below (va_Qi (fun r' (_ : Unit) => r' = r) (fun _ t => PoS D cy S1 (dm S s.heap.size) t) (dm S s.heap.size)) ([.ref a0, .int a1, .int a2, .int a3, .int a4] : List Value).toArray s 0 0 (dm S s.heap.size)) (F0 m 63 ls [.int t19.1]) := by
      intro H locs ls hP hD hS hl
      cases h
      exact e_im hx hb hlocks hr hP hD hS (Nat.le_of_ble_eq_true rfl) (Nat.le_of_ble_eq_true rfl) dX7_work_63
    replace h := ht
    refine lv_if_le (tgt := 54) hx hb dX7_work_47 (by decide) (fun c20 => ?_) (fun c20 => ?_)
    · replace h := ifp c20 h
      refine lv_aload_n hx hb dX7_work_54 rfl (lv_at hl 0 rfl) ?_
      refine lv_iload_n hx hb dX7_work_55 rfl (lv_at hl 1 rfl) ?_
      refine lv_iload_n hx hb dX7_work_56 rfl (lv_at hl 2 rfl) ?_
      refine lv_iload_n hx hb dX7_work_57 rfl (lv_at hl 3 rfl) ?_
      refine lv_iload hx hb dX7_work_58 (lv_at hl 4 rfl) ?_
      replace h := bd h
      obtain ⟨_, q21, h⟩ := h
      replace h := bd h
      obtain ⟨z23, q22, h⟩ := h
      refine c_X7_workNow ⟨hx, hb, hml, hown, hts⟩ hl.1 hK hP hD hA hS wd_1201 ⟨(Nat.le_of_ble_eq_true rfl), (Nat.le_of_ble_eq_true rfl)⟩ q22 q21 (Nat.le_of_ble_eq_true rfl) dX7_work_60 ⟨(Nat.le_of_ble_eq_true rfl), (Nat.le_of_ble_eq_true rfl)⟩ (fun H locs hP hD hS => ?_)
      cases h
      exact K19 _ _ _ hP hD hS (lv_sub hl [] rfl)
    · replace h := ifn c20 h
      refine lv_iconst (v := 0) hx hb dX7_work_50 (by decide) ?_
      refine lv_goto (tgt := 63) hx hb dX7_work_51 (by decide) ?_
      cases h
      exact K19 _ _ _ hP hD hS (lv_sub hl [] rfl)
  replace h := ht
  refine lv_if_ne (tgt := 13) hx hb dX7_work_6 (by decide) (fun c5 => ?_) (fun c5 => ?_)
  · replace h := ifn c5 h
    refine lv_iload_n hx hb dX7_work_13 rfl (lv_at hl 2 rfl) ?_
    replace h := bd h
    obtain ⟨x7, q6, h⟩ := h
    refine c_X7_isCode ⟨hx, hb, hml, hown, hts⟩ hl.1 hK hP hS wd_1190 ⟨(Nat.le_of_ble_eq_true rfl), (Nat.le_of_ble_eq_true rfl)⟩ q6 (Nat.le_of_ble_eq_true rfl) dX7_work_14 ⟨(Nat.le_of_ble_eq_true rfl), (Nat.le_of_ble_eq_true rfl)⟩ (fun H locs hP hS => ?_)
    refine lv_if_eq (tgt := 39) hx hb dX7_work_17 (by decide) (fun c8 => ?_) (fun c8 => ?_)
    · replace h := ifp c8 h
      refine lv_iconst (v := 2) hx hb dX7_work_39 (by decide) ?_
      cases h
      exact K4 _ _ _ hP hD hS (lv_sub hl [0, 1, 2, 3, 4] rfl)
    · replace h := ifn c8 h
      refine lv_iload_n hx hb dX7_work_20 rfl (lv_at hl 3 rfl) ?_
      replace h := bd h
      obtain ⟨x10, q9, h⟩ := h
      refine c_X7_isQuestion ⟨hx, hb, hml, hown, hts⟩ hl.1 hK hP hS wd_1112 ⟨(Nat.le_of_ble_eq_true rfl), (Nat.le_of_ble_eq_true rfl)⟩ q9 (Nat.le_of_ble_eq_true rfl) dX7_work_21 ⟨(Nat.le_of_ble_eq_true rfl), (Nat.le_of_ble_eq_true rfl)⟩ (fun H locs hP hS => ?_)
      refine lv_if_eq (tgt := 39) hx hb dX7_work_24 (by decide) (fun c11 => ?_) (fun c11 => ?_)
      · replace h := ifp c11 h
        refine lv_iconst (v := 2) hx hb dX7_work_39 (by decide) ?_
        cases h
        exact K4 _ _ _ hP hD hS (lv_sub hl [0, 1, 2, 3, 4] rfl)
      · replace h := ifn c11 h
        refine lv_iload hx hb dX7_work_27 (lv_at hl 4 rfl) ?_
        replace h := bd h
        obtain ⟨x13, q12, h⟩ := h
        refine c_X7_isValue ⟨hx, hb, hml, hown, hts⟩ hl.1 hK hP hS wd_935 ⟨(Nat.le_of_ble_eq_true rfl), (Nat.le_of_ble_eq_true rfl)⟩ q12 (Nat.le_of_ble_eq_true rfl) dX7_work_29 ⟨(Nat.le_of_ble_eq_true rfl), (Nat.le_of_ble_eq_true rfl)⟩ (fun H locs hP hS => ?_)
        refine lv_if_eq (tgt := 39) hx hb dX7_work_32 (by decide) (fun c14 => ?_) (fun c14 => ?_)
        · replace h := ifp c14 h
          refine lv_iconst (v := 2) hx hb dX7_work_39 (by decide) ?_
          cases h
          exact K4 _ _ _ hP hD hS (lv_sub hl [0, 1, 2, 3, 4] rfl)
        · replace h := ifn c14 h
          refine lv_iconst (v := 0) hx hb dX7_work_35 (by decide) ?_
          refine lv_goto (tgt := 40) hx hb dX7_work_36 (by decide) ?_
          cases h
          exact K4 _ _ _ hP hD hS (lv_sub hl [0, 1, 2, 3, 4] rfl)
  · replace h := ifp c5 h
    refine lv_iconst (v := 1) hx hb dX7_work_9 (by decide) ?_
    refine lv_goto (tgt := 40) hx hb dX7_work_10 (by decide) ?_
    cases h
    exact K4 _ _ _ hP hD hS (lv_sub hl [0, 1, 2, 3, 4] rfl)
set_option maxRecDepth 100000 in
theorem c_X7_work {p : Program} {l : Launch} {e : Env} {R : Room} {s : State} {m : MethodId} {args : Array Value} {below : List Frame} {meth : Method} {c : Code} {H : Heap} {locs : List Loc} {cells slots : Nat} {Q : State → Prop} {cc : ByteArray} {pc index nL : Nat} {ls : Array Slot} {rest : List Value} {D : va_G} {cy : Nat → ClassId} {A0 : Nat → Prop} {S : St} {H0 : Heap} {own : String} {u : Unit} {a0 : Nat} {a1 : Int32} {a2 : Int32} {a3 : Int32} {a4 : Int32} {r : Int32} {S1 : St}  (hF : CallFix p m c cc nL s args ALLW own) (hsz : ls.size = nL) (hK : va_K D vwCl (tyL cy) s) (hP : SP D cy S H) (hD : ∀ a, S a ≠ none → A0 a) (hA : ∀ q, H0.size ≤ q → A0 q) (hS : va_S A0 H0 H locs) (hk : Cond.methodLink own index yX7_work ∈ ALLW) (hR : rm_X7_work.frames + 1 ≤ R.frames ∧ 8 + (5 + 11) + rm_X7_work.locals ≤ R.locals) (h : f_X7_work S a0 a1 a2 a3 a4 = some (r, S1)) (hc : oO S a0 6 = some u) (hW : (rest.map fun v => v.category).sum ≤ 8) (hdg : decode cc pc = .ok (.invokevirtual index, 3)) (hf : cells + 0 ≤ R.cells ∧ slots + 0 ≤ R.slots)
    (kk : ∀ (H1 : Heap) (locs1 : List Loc), SP D cy S1 H1 → (∀ a, S1 a ≠ none → A0 a) → va_S A0 H0 H1 locs1 → W p l e R s m args below meth c H1 locs1 (cells + 0) (slots + 0) Q (F0 m (pc + 3) ls (.int r :: rest))) : W p l e R s m args below meth c H locs cells slots Q (F0 m pc ls (.int a4 :: .int a3 :: .int a2 :: .int a1 :: .ref a0 :: rest)) := by
  exact k_iVm (As := [.int a1, .int a2, .int a3, .int a4]) hF hsz (m_X7_work l D cy H.size S a0 a1 a2 a3 a4 r S1 h) (cwV_of (n := 4) hF.2.2.2.2 hk wd_1198 wd_1199 wd_75 wd_1200 rfl rfl (by decide +kernel) hR) rfl hK hP hD hA hS (ci := 6) hc rfl hW rfl hdg hf kk
/-- VowBlocksModel.regretThen(II)I -/
def f_X7_regretThen (S : St) (a0 : Nat) (a1 : Int32) (a2 : Int32) : Option (Int32 × St) :=
  (oO S a0 6).bind fun _ =>
  (f_X7_lay S a0 a1).bind fun z3 =>
  (oO z3 a0 6).bind fun _ =>
  (f_X7_daysLeft z3 a0 a1).bind fun x6 =>
  (
    if 1 ≤ x6 then
      some x6
    else
      some 1
  : Option (Int32)).bind fun t7 =>
  (oO z3 a0 6).bind fun _ =>
  (f_X7_of z3 a0 a1 1).bind fun x11 =>
  (oO z3 a0 6).bind fun _ =>
  (f_X7_regretBy z3 a0 x11).bind fun x14 =>
  (
    if t7 ≤ a2 then
      some t7
    else
      some a2
  : Option (Int32)).bind fun t15 =>
  some ((x14 * t15), z3)
abbrev rm_X7_regretThen : Room := { frames := 6, cells := 0, slots := 0, locals := 130 }
set_option maxHeartbeats 4000000 in
set_option maxRecDepth 100000 in
theorem m_X7_regretThen (l : Launch) (D : va_G) (cy : Nat → ClassId) (sz : Nat) (S : St) (a0 : Nat) (a1 : Int32) (a2 : Int32) (r : Int32) (S1 : St) (h : f_X7_regretThen S a0 a1 a2 = some (r, S1)) : Met l yX7_regretThen (wsA yX7_regretThen cX7_regretThen 5 (some .int)) rm_X7_regretThen (va_Pc [.ref a0, .int a1, .int a2] (PN D cy S sz)) (va_Qi (fun r' (_ : Unit) => r' = r) (fun _ t => PoS D cy S1 (dm S sz) t) (dm S sz)) 0 0 (dm S sz) := by
  refine Met.ofW (cc := cX7_regretThen) (maxL := 5) (ret := (some .int)) (by decide) rfl ?_
  intro p e s m args below meth c s₁ B hml hv
  obtain ⟨rfl, hsz, hP, hK⟩ := hv
  have hx := B.exec
  have hb := B.bytes
  have hr := B.returns
  have hts9 := atoms_spec (ws := wsA yX7_regretThen cX7_regretThen 5 (some .int)) B.pre
  have hts : ∀ w ∈ ALLW, w.before _ s = true := fun w h => hts9 w (List.mem_cons_of_mem _ h)
  have hown : s.vm.findClass RX7 = some m.cls := findClass_of_methodNamed B.named
  have hlocks := B.notSynchronized
  subst hsz
  have hD : ∀ a, S a ≠ none → dm S s.heap.size a := fun a h => Or.inl h
  have hA : ∀ q : Nat, s.heap.size ≤ q → dm S s.heap.size q := fun q h => Or.inr h
  have hS : va_S (dm S s.heap.size) s.heap s.heap [] := va_S.rf
  have hl := lv_entry [.ref a0, .int a1, .int a2] (n := 5) (Nat.le_of_ble_eq_true rfl)
  rw [lg_entry_eq]
  generalize (lg_sl [.ref a0, .int a1, .int a2] ++ List.replicate (5 - (lg_sl [.ref a0, .int a1, .int a2]).length) Slot.unset).toArray = ls at hl ⊢
  have hl : lv_has ls 5 [(0, .ref a0), (1, .int a1), (2, .int a2)] := hl
  rw [f_X7_regretThen] at h
  refine lv_aload_n hx hb dX7_regretThen_0 rfl (lv_at hl 0 rfl) ?_
  refine lv_iload_n hx hb dX7_regretThen_1 rfl (lv_at hl 1 rfl) ?_
  replace h := bd h
  obtain ⟨_, q1, h⟩ := h
  replace h := bd h
  obtain ⟨z3, q2, h⟩ := h
  refine c_X7_lay ⟨hx, hb, hml, hown, hts⟩ hl.1 hK hP hD hA hS wd_957 ⟨(Nat.le_of_ble_eq_true rfl), (Nat.le_of_ble_eq_true rfl)⟩ q2 q1 (Nat.le_of_ble_eq_true rfl) dX7_regretThen_2 ⟨(Nat.le_of_ble_eq_true rfl), (Nat.le_of_ble_eq_true rfl)⟩ (fun H locs hP hD hS => ?_)
  refine lv_aload_n hx hb dX7_regretThen_5 rfl (lv_at hl 0 rfl) ?_
  refine lv_iload_n hx hb dX7_regretThen_6 rfl (lv_at hl 1 rfl) ?_
  replace h := bd h
  obtain ⟨_, q4, h⟩ := h
  replace h := bd h
  obtain ⟨x6, q5, h⟩ := h
  refine c_X7_daysLeft ⟨hx, hb, hml, hown, hts⟩ hl.1 hK hP hS wd_1104 ⟨(Nat.le_of_ble_eq_true rfl), (Nat.le_of_ble_eq_true rfl)⟩ q5 q4 (Nat.le_of_ble_eq_true rfl) dX7_regretThen_7 ⟨(Nat.le_of_ble_eq_true rfl), (Nat.le_of_ble_eq_true rfl)⟩ (fun H locs hP hS => ?_)
  refine lv_istore_n (lv' := [(3, .int x6), (0, .ref a0), (1, .int a1), (2, .int a2)]) hx hb dX7_regretThen_10 rfl hl (by decide) rfl (fun ls hl => ?_)
  refine lv_iload_n hx hb dX7_regretThen_11 rfl (lv_at hl 0 rfl) ?_
  refine lv_iconst (v := 1) hx hb dX7_regretThen_12 (by decide) ?_
  replace h := bd h
  obtain ⟨t7, ht, h⟩ := h
  have K7 : ∀ (H : Heap) (locs : List Loc) (ls : Array Slot), SP D cy z3 H → (∀ a, z3 a ≠ none → (dm S s.heap.size) a) → va_S (dm S s.heap.size) s.heap H locs → lv_has ls 5 [(0, .ref a0), (1, .int a1), (2, .int a2)] → W p l e rm_X7_regretThen s m ([.ref a0, .int a1, .int a2] : List Value).toArray below meth c H locs 0 0 (MQ below (va_Qi (fun r' (_ : Unit) => r' = r) (fun _ t => PoS D cy S1 (dm S s.heap.size) t) (dm S s.heap.size)) ([.ref a0, .int a1, .int a2] : List Value).toArray s 0 0 (dm S s.heap.size)) (F0 m 21 ls [.int t7]) := by
    intro H locs ls hP hD hS hl
    refine lv_istore (lv' := [(4, .int t7), (0, .ref a0), (1, .int a1), (2, .int a2)]) hx hb dX7_regretThen_21 hl (by decide) rfl (fun ls hl => ?_)
    refine lv_aload_n hx hb dX7_regretThen_23 rfl (lv_at hl 1 rfl) ?_
    refine lv_aload_n hx hb dX7_regretThen_24 rfl (lv_at hl 1 rfl) ?_
    refine lv_iload_n hx hb dX7_regretThen_25 rfl (lv_at hl 2 rfl) ?_
    refine lv_iconst (v := 1) hx hb dX7_regretThen_26 (by decide) ?_
    replace h := bd h
    obtain ⟨_, q9, h⟩ := h
    replace h := bd h
    obtain ⟨x11, q10, h⟩ := h
    refine c_X7_of ⟨hx, hb, hml, hown, hts⟩ hl.1 hK hP hS wd_961 ⟨(Nat.le_of_ble_eq_true rfl), (Nat.le_of_ble_eq_true rfl)⟩ q10 q9 (Nat.le_of_ble_eq_true rfl) dX7_regretThen_27 ⟨(Nat.le_of_ble_eq_true rfl), (Nat.le_of_ble_eq_true rfl)⟩ (fun H locs hP hS => ?_)
    replace h := bd h
    obtain ⟨_, q12, h⟩ := h
    replace h := bd h
    obtain ⟨x14, q13, h⟩ := h
    refine c_X7_regretBy ⟨hx, hb, hml, hown, hts⟩ hl.1 hK hP hS wd_1092 ⟨(Nat.le_of_ble_eq_true rfl), (Nat.le_of_ble_eq_true rfl)⟩ q13 q12 (Nat.le_of_ble_eq_true rfl) dX7_regretThen_30 ⟨(Nat.le_of_ble_eq_true rfl), (Nat.le_of_ble_eq_true rfl)⟩ (fun H locs hP hS => ?_)
    refine lv_iload_n hx hb dX7_regretThen_33 rfl (lv_at hl 3 rfl) ?_
    refine lv_iload hx hb dX7_regretThen_34 (lv_at hl 0 rfl) ?_
    replace h := bd h
    obtain ⟨t15, ht, h⟩ := h
    have K15 : ∀ (H : Heap) (locs : List Loc) (ls : Array Slot), SP D cy z3 H → (∀ a, z3 a ≠ none → (dm S s.heap.size) a) → va_S (dm S s.heap.size) s.heap H locs → lv_has ls 5 [] → W p l e rm_X7_regretThen s m ([.ref a0, .int a1, .int a2] : List Value).toArray below meth c H locs 0 0 (MQ below (va_Qi (fun r' (_ : Unit) => r' = r) (fun _ t => PoS D cy S1 (dm S s.heap.size) t) (dm S s.heap.size)) ([.ref a0, .int a1, .int a2] : List Value).toArray s 0 0 (dm S s.heap.size)) (F0 m 45 ls [.int t15, .int x14]) := by
      intro H locs ls hP hD hS hl
      refine lv_imul hx hb dX7_regretThen_45 ?_
      cases h
      exact e_im hx hb hlocks hr hP hD hS (Nat.le_of_ble_eq_true rfl) (Nat.le_of_ble_eq_true rfl) dX7_regretThen_46
    replace h := ht
    refine lv_icmp_ge (tgt := 43) hx hb dX7_regretThen_36 (by decide) (fun c16 => ?_) (fun c16 => ?_)
    · replace h := ifp c16 h
      refine lv_iload hx hb dX7_regretThen_43 (lv_at hl 0 rfl) ?_
      cases h
      exact K15 _ _ _ hP hD hS (lv_sub hl [] rfl)
    · replace h := ifn c16 h
      refine lv_iload_n hx hb dX7_regretThen_39 rfl (lv_at hl 3 rfl) ?_
      refine lv_goto (tgt := 45) hx hb dX7_regretThen_40 (by decide) ?_
      cases h
      exact K15 _ _ _ hP hD hS (lv_sub hl [] rfl)
  replace h := ht
  refine lv_icmp_ge (tgt := 20) hx hb dX7_regretThen_13 (by decide) (fun c8 => ?_) (fun c8 => ?_)
  · replace h := ifp c8 h
    refine lv_iload_n hx hb dX7_regretThen_20 rfl (lv_at hl 0 rfl) ?_
    cases h
    exact K7 _ _ _ hP hD hS (lv_sub hl [1, 2, 3] rfl)
  · replace h := ifn c8 h
    refine lv_iconst (v := 1) hx hb dX7_regretThen_16 (by decide) ?_
    refine lv_goto (tgt := 21) hx hb dX7_regretThen_17 (by decide) ?_
    cases h
    exact K7 _ _ _ hP hD hS (lv_sub hl [1, 2, 3] rfl)
set_option maxRecDepth 100000 in
theorem c_X7_regretThen {p : Program} {l : Launch} {e : Env} {R : Room} {s : State} {m : MethodId} {args : Array Value} {below : List Frame} {meth : Method} {c : Code} {H : Heap} {locs : List Loc} {cells slots : Nat} {Q : State → Prop} {cc : ByteArray} {pc index nL : Nat} {ls : Array Slot} {rest : List Value} {D : va_G} {cy : Nat → ClassId} {A0 : Nat → Prop} {S : St} {H0 : Heap} {own : String} {u : Unit} {a0 : Nat} {a1 : Int32} {a2 : Int32} {r : Int32} {S1 : St}  (hF : CallFix p m c cc nL s args ALLW own) (hsz : ls.size = nL) (hK : va_K D vwCl (tyL cy) s) (hP : SP D cy S H) (hD : ∀ a, S a ≠ none → A0 a) (hA : ∀ q, H0.size ≤ q → A0 q) (hS : va_S A0 H0 H locs) (hk : Cond.methodLink own index yX7_regretThen ∈ ALLW) (hR : rm_X7_regretThen.frames + 1 ≤ R.frames ∧ 8 + (5 + 11) + rm_X7_regretThen.locals ≤ R.locals) (h : f_X7_regretThen S a0 a1 a2 = some (r, S1)) (hc : oO S a0 6 = some u) (hW : (rest.map fun v => v.category).sum ≤ 8) (hdg : decode cc pc = .ok (.invokevirtual index, 3)) (hf : cells + 0 ≤ R.cells ∧ slots + 0 ≤ R.slots)
    (kk : ∀ (H1 : Heap) (locs1 : List Loc), SP D cy S1 H1 → (∀ a, S1 a ≠ none → A0 a) → va_S A0 H0 H1 locs1 → W p l e R s m args below meth c H1 locs1 (cells + 0) (slots + 0) Q (F0 m (pc + 3) ls (.int r :: rest))) : W p l e R s m args below meth c H locs cells slots Q (F0 m pc ls (.int a2 :: .int a1 :: .ref a0 :: rest)) := by
  exact k_iVm (As := [.int a1, .int a2]) hF hsz (m_X7_regretThen l D cy H.size S a0 a1 a2 r S1 h) (cwV_of (n := 2) hF.2.2.2.2 hk wd_1211 wd_61 wd_75 wd_1212 rfl rfl (by decide +kernel) hR) rfl hK hP hD hA hS (ci := 6) hc rfl hW rfl hdg hf kk
/-- VowBlocksModel.regretIn(II)I -/
def f_X7_regretIn (S : St) (a0 : Nat) (a1 : Int32) (a2 : Int32) : Option (Int32 × St) :=
  (oO S a0 6).bind fun _ =>
  (f_X7_isBlock S a0 a1).bind fun x3 =>
  (
    if x3 = 0 then
      some 1
    else
      (f_X7_within a2 0 200).bind fun x7 =>
      if x7 = 0 then
        some 2
      else
        some 0
  : Option (Int32)).bind fun t4 =>
  (pI S a0 6 5 t4).bind fun Z9 =>
  (gI Z9 a0 6 5).bind fun x11 =>
  (
    if x11 ≤ 0 then
      (oO Z9 a0 6).bind fun _ =>
      (f_X7_regretThen Z9 a0 a1 a2).bind fun z17 =>
      some (z17.1, z17.2)
    else
      some (0, Z9)
  : Option (Int32 × St)).bind fun t13 =>
  some (t13.1, t13.2)
abbrev rm_X7_regretIn : Room := { frames := 7, cells := 0, slots := 0, locals := 154 }
set_option maxHeartbeats 4000000 in
set_option maxRecDepth 100000 in
theorem m_X7_regretIn (l : Launch) (D : va_G) (cy : Nat → ClassId) (sz : Nat) (S : St) (a0 : Nat) (a1 : Int32) (a2 : Int32) (r : Int32) (S1 : St) (h : f_X7_regretIn S a0 a1 a2 = some (r, S1)) : Met l yX7_regretIn (wsA yX7_regretIn cX7_regretIn 3 (some .int)) rm_X7_regretIn (va_Pc [.ref a0, .int a1, .int a2] (PN D cy S sz)) (va_Qi (fun r' (_ : Unit) => r' = r) (fun _ t => PoS D cy S1 (dm S sz) t) (dm S sz)) 0 0 (dm S sz) := by
  refine Met.ofW (cc := cX7_regretIn) (maxL := 3) (ret := (some .int)) (by decide) rfl ?_
  intro p e s m args below meth c s₁ B hml hv
  obtain ⟨rfl, hsz, hP, hK⟩ := hv
  have hx := B.exec
  have hb := B.bytes
  have hr := B.returns
  have hts9 := atoms_spec (ws := wsA yX7_regretIn cX7_regretIn 3 (some .int)) B.pre
  have hts : ∀ w ∈ ALLW, w.before _ s = true := fun w h => hts9 w (List.mem_cons_of_mem _ h)
  have hown : s.vm.findClass RX7 = some m.cls := findClass_of_methodNamed B.named
  have hlocks := B.notSynchronized
  subst hsz
  have hD : ∀ a, S a ≠ none → dm S s.heap.size a := fun a h => Or.inl h
  have hA : ∀ q : Nat, s.heap.size ≤ q → dm S s.heap.size q := fun q h => Or.inr h
  have hS : va_S (dm S s.heap.size) s.heap s.heap [] := va_S.rf
  have hl := lv_entry [.ref a0, .int a1, .int a2] (n := 3) (Nat.le_of_ble_eq_true rfl)
  rw [lg_entry_eq]
  generalize (lg_sl [.ref a0, .int a1, .int a2] ++ List.replicate (3 - (lg_sl [.ref a0, .int a1, .int a2]).length) Slot.unset).toArray = ls at hl ⊢
  have hl : lv_has ls 3 [(0, .ref a0), (1, .int a1), (2, .int a2)] := hl
  rw [f_X7_regretIn] at h
  refine lv_aload_n hx hb dX7_regretIn_0 rfl (lv_at hl 0 rfl) ?_
  refine lv_aload_n hx hb dX7_regretIn_1 rfl (lv_at hl 0 rfl) ?_
  refine lv_iload_n hx hb dX7_regretIn_2 rfl (lv_at hl 1 rfl) ?_
  replace h := bd h
  obtain ⟨_, q1, h⟩ := h
  replace h := bd h
  obtain ⟨x3, q2, h⟩ := h
  refine c_X7_isBlock ⟨hx, hb, hml, hown, hts⟩ hl.1 hK hP hS wd_1044 ⟨(Nat.le_of_ble_eq_true rfl), (Nat.le_of_ble_eq_true rfl)⟩ q2 q1 (Nat.le_of_ble_eq_true rfl) dX7_regretIn_3 ⟨(Nat.le_of_ble_eq_true rfl), (Nat.le_of_ble_eq_true rfl)⟩ (fun H locs hP hS => ?_)
  replace h := bd h
  obtain ⟨t4, ht, h⟩ := h
  have K4 : ∀ (H : Heap) (locs : List Loc) (ls : Array Slot), SP D cy S H → (∀ a, S a ≠ none → (dm S s.heap.size) a) → va_S (dm S s.heap.size) s.heap H locs → lv_has ls 3 [(0, .ref a0), (1, .int a1), (2, .int a2)] → W p l e rm_X7_regretIn s m ([.ref a0, .int a1, .int a2] : List Value).toArray below meth c H locs 0 0 (MQ below (va_Qi (fun r' (_ : Unit) => r' = r) (fun _ t => PoS D cy S1 (dm S s.heap.size) t) (dm S s.heap.size)) ([.ref a0, .int a1, .int a2] : List Value).toArray s 0 0 (dm S s.heap.size)) (F0 m 29 ls [.int t4, .ref a0]) := by
    intro H locs ls hP hD hS hl
    replace h := bd h
    obtain ⟨Z9, q10, h⟩ := h
    refine fp_6_5 hx hb hts hown hK hP hD hS wd_892 q10 dX7_regretIn_29 (fun H locs hz9 hP hD hS => ?_)
    refine lv_aload_n hx hb dX7_regretIn_32 rfl (lv_at hl 0 rfl) ?_
    replace h := bd h
    obtain ⟨x11, q12, h⟩ := h
    refine fg_6_5 hx hb hts hown hK hP wd_892 q12 dX7_regretIn_33 ?_
    replace h := bd h
    obtain ⟨t13, ht, h⟩ := h
    have K13 : ∀ (H : Heap) (locs : List Loc) (ls : Array Slot), SP D cy t13.2 H → (∀ a, t13.2 a ≠ none → (dm S s.heap.size) a) → va_S (dm S s.heap.size) s.heap H locs → lv_has ls 3 [] → W p l e rm_X7_regretIn s m ([.ref a0, .int a1, .int a2] : List Value).toArray below meth c H locs 0 0 (MQ below (va_Qi (fun r' (_ : Unit) => r' = r) (fun _ t => PoS D cy S1 (dm S s.heap.size) t) (dm S s.heap.size)) ([.ref a0, .int a1, .int a2] : List Value).toArray s 0 0 (dm S s.heap.size)) (F0 m 49 ls [.int t13.1]) := by
      intro H locs ls hP hD hS hl
      cases h
      exact e_im hx hb hlocks hr hP hD hS (Nat.le_of_ble_eq_true rfl) (Nat.le_of_ble_eq_true rfl) dX7_regretIn_49
    replace h := ht
    refine lv_if_le (tgt := 43) hx hb dX7_regretIn_36 (by decide) (fun c14 => ?_) (fun c14 => ?_)
    · replace h := ifp c14 h
      refine lv_aload_n hx hb dX7_regretIn_43 rfl (lv_at hl 0 rfl) ?_
      refine lv_iload_n hx hb dX7_regretIn_44 rfl (lv_at hl 1 rfl) ?_
      refine lv_iload_n hx hb dX7_regretIn_45 rfl (lv_at hl 2 rfl) ?_
      replace h := bd h
      obtain ⟨_, q15, h⟩ := h
      replace h := bd h
      obtain ⟨z17, q16, h⟩ := h
      refine c_X7_regretThen ⟨hx, hb, hml, hown, hts⟩ hl.1 hK hP hD hA hS wd_1209 ⟨(Nat.le_of_ble_eq_true rfl), (Nat.le_of_ble_eq_true rfl)⟩ q16 q15 (Nat.le_of_ble_eq_true rfl) dX7_regretIn_46 ⟨(Nat.le_of_ble_eq_true rfl), (Nat.le_of_ble_eq_true rfl)⟩ (fun H locs hP hD hS => ?_)
      cases h
      exact K13 _ _ _ hP hD hS (lv_sub hl [] rfl)
    · replace h := ifn c14 h
      refine lv_iconst (v := 0) hx hb dX7_regretIn_39 (by decide) ?_
      refine lv_goto (tgt := 49) hx hb dX7_regretIn_40 (by decide) ?_
      cases h
      exact K13 _ _ _ hP hD hS (lv_sub hl [] rfl)
  replace h := ht
  refine lv_if_ne (tgt := 13) hx hb dX7_regretIn_6 (by decide) (fun c5 => ?_) (fun c5 => ?_)
  · replace h := ifn c5 h
    refine lv_iload_n hx hb dX7_regretIn_13 rfl (lv_at hl 2 rfl) ?_
    refine lv_iconst (v := 0) hx hb dX7_regretIn_14 (by decide) ?_
    refine lv_sipush (v := 200) hx hb dX7_regretIn_15 (by decide) ?_
    replace h := bd h
    obtain ⟨x7, q6, h⟩ := h
    refine c_X7_within ⟨hx, hb, hml, hown, hts⟩ hl.1 hK hP hS wd_938 ⟨(Nat.le_of_ble_eq_true rfl), (Nat.le_of_ble_eq_true rfl)⟩ q6 (Nat.le_of_ble_eq_true rfl) dX7_regretIn_18 ⟨(Nat.le_of_ble_eq_true rfl), (Nat.le_of_ble_eq_true rfl)⟩ (fun H locs hP hS => ?_)
    refine lv_if_eq (tgt := 28) hx hb dX7_regretIn_21 (by decide) (fun c8 => ?_) (fun c8 => ?_)
    · replace h := ifp c8 h
      refine lv_iconst (v := 2) hx hb dX7_regretIn_28 (by decide) ?_
      cases h
      exact K4 _ _ _ hP hD hS (lv_sub hl [0, 1, 2] rfl)
    · replace h := ifn c8 h
      refine lv_iconst (v := 0) hx hb dX7_regretIn_24 (by decide) ?_
      refine lv_goto (tgt := 29) hx hb dX7_regretIn_25 (by decide) ?_
      cases h
      exact K4 _ _ _ hP hD hS (lv_sub hl [0, 1, 2] rfl)
  · replace h := ifp c5 h
    refine lv_iconst (v := 1) hx hb dX7_regretIn_9 (by decide) ?_
    refine lv_goto (tgt := 29) hx hb dX7_regretIn_10 (by decide) ?_
    cases h
    exact K4 _ _ _ hP hD hS (lv_sub hl [0, 1, 2] rfl)
set_option maxRecDepth 100000 in
theorem c_X7_regretIn {p : Program} {l : Launch} {e : Env} {R : Room} {s : State} {m : MethodId} {args : Array Value} {below : List Frame} {meth : Method} {c : Code} {H : Heap} {locs : List Loc} {cells slots : Nat} {Q : State → Prop} {cc : ByteArray} {pc index nL : Nat} {ls : Array Slot} {rest : List Value} {D : va_G} {cy : Nat → ClassId} {A0 : Nat → Prop} {S : St} {H0 : Heap} {own : String} {u : Unit} {a0 : Nat} {a1 : Int32} {a2 : Int32} {r : Int32} {S1 : St}  (hF : CallFix p m c cc nL s args ALLW own) (hsz : ls.size = nL) (hK : va_K D vwCl (tyL cy) s) (hP : SP D cy S H) (hD : ∀ a, S a ≠ none → A0 a) (hA : ∀ q, H0.size ≤ q → A0 q) (hS : va_S A0 H0 H locs) (hk : Cond.methodLink own index yX7_regretIn ∈ ALLW) (hR : rm_X7_regretIn.frames + 1 ≤ R.frames ∧ 8 + (3 + 11) + rm_X7_regretIn.locals ≤ R.locals) (h : f_X7_regretIn S a0 a1 a2 = some (r, S1)) (hc : oO S a0 6 = some u) (hW : (rest.map fun v => v.category).sum ≤ 8) (hdg : decode cc pc = .ok (.invokevirtual index, 3)) (hf : cells + 0 ≤ R.cells ∧ slots + 0 ≤ R.slots)
    (kk : ∀ (H1 : Heap) (locs1 : List Loc), SP D cy S1 H1 → (∀ a, S1 a ≠ none → A0 a) → va_S A0 H0 H1 locs1 → W p l e R s m args below meth c H1 locs1 (cells + 0) (slots + 0) Q (F0 m (pc + 3) ls (.int r :: rest))) : W p l e R s m args below meth c H locs cells slots Q (F0 m pc ls (.int a2 :: .int a1 :: .ref a0 :: rest)) := by
  exact k_iVm (As := [.int a1, .int a2]) hF hsz (m_X7_regretIn l D cy H.size S a0 a1 a2 r S1 h) (cwV_of (n := 2) hF.2.2.2.2 hk wd_1206 wd_1207 wd_75 wd_1208 rfl rfl (by decide +kernel) hR) rfl hK hP hD hA hS (ci := 6) hc rfl hW rfl hdg hf kk
/-- VowBlocksModel.gainNow(I)I -/
def f_X7_gainNow (S : St) (a0 : Nat) (a1 : Int32) : Option (Int32 × St) :=
  (oO S a0 6).bind fun _ =>
  (f_X7_daysLeft S a0 a1).bind fun x3 =>
  (
    if x3 ≤ 200 then
      some x3
    else
      some 200
  : Option (Int32)).bind fun t4 =>
  (oO S a0 6).bind fun _ =>
  (f_X7_regretThen S a0 a1 t4).bind fun z8 =>
  (oO z8.2 a0 6).bind fun _ =>
  (f_X7_fineOf z8.2 a0 a1).bind fun x11 =>
  some ((z8.1 - x11), z8.2)
abbrev rm_X7_gainNow : Room := { frames := 7, cells := 0, slots := 0, locals := 154 }
set_option maxHeartbeats 4000000 in
set_option maxRecDepth 100000 in
theorem m_X7_gainNow (l : Launch) (D : va_G) (cy : Nat → ClassId) (sz : Nat) (S : St) (a0 : Nat) (a1 : Int32) (r : Int32) (S1 : St) (h : f_X7_gainNow S a0 a1 = some (r, S1)) : Met l yX7_gainNow (wsA yX7_gainNow cX7_gainNow 3 (some .int)) rm_X7_gainNow (va_Pc [.ref a0, .int a1] (PN D cy S sz)) (va_Qi (fun r' (_ : Unit) => r' = r) (fun _ t => PoS D cy S1 (dm S sz) t) (dm S sz)) 0 0 (dm S sz) := by
  refine Met.ofW (cc := cX7_gainNow) (maxL := 3) (ret := (some .int)) (by decide) rfl ?_
  intro p e s m args below meth c s₁ B hml hv
  obtain ⟨rfl, hsz, hP, hK⟩ := hv
  have hx := B.exec
  have hb := B.bytes
  have hr := B.returns
  have hts9 := atoms_spec (ws := wsA yX7_gainNow cX7_gainNow 3 (some .int)) B.pre
  have hts : ∀ w ∈ ALLW, w.before _ s = true := fun w h => hts9 w (List.mem_cons_of_mem _ h)
  have hown : s.vm.findClass RX7 = some m.cls := findClass_of_methodNamed B.named
  have hlocks := B.notSynchronized
  subst hsz
  have hD : ∀ a, S a ≠ none → dm S s.heap.size a := fun a h => Or.inl h
  have hA : ∀ q : Nat, s.heap.size ≤ q → dm S s.heap.size q := fun q h => Or.inr h
  have hS : va_S (dm S s.heap.size) s.heap s.heap [] := va_S.rf
  have hl := lv_entry [.ref a0, .int a1] (n := 3) (Nat.le_of_ble_eq_true rfl)
  rw [lg_entry_eq]
  generalize (lg_sl [.ref a0, .int a1] ++ List.replicate (3 - (lg_sl [.ref a0, .int a1]).length) Slot.unset).toArray = ls at hl ⊢
  have hl : lv_has ls 3 [(0, .ref a0), (1, .int a1)] := hl
  rw [f_X7_gainNow] at h
  refine lv_aload_n hx hb dX7_gainNow_0 rfl (lv_at hl 0 rfl) ?_
  refine lv_iload_n hx hb dX7_gainNow_1 rfl (lv_at hl 1 rfl) ?_
  replace h := bd h
  obtain ⟨_, q1, h⟩ := h
  replace h := bd h
  obtain ⟨x3, q2, h⟩ := h
  refine c_X7_daysLeft ⟨hx, hb, hml, hown, hts⟩ hl.1 hK hP hS wd_1104 ⟨(Nat.le_of_ble_eq_true rfl), (Nat.le_of_ble_eq_true rfl)⟩ q2 q1 (Nat.le_of_ble_eq_true rfl) dX7_gainNow_2 ⟨(Nat.le_of_ble_eq_true rfl), (Nat.le_of_ble_eq_true rfl)⟩ (fun H locs hP hS => ?_)
  refine lv_istore_n (lv' := [(2, .int x3), (0, .ref a0), (1, .int a1)]) hx hb dX7_gainNow_5 rfl hl (by decide) rfl (fun ls hl => ?_)
  refine lv_aload_n hx hb dX7_gainNow_6 rfl (lv_at hl 1 rfl) ?_
  refine lv_iload_n hx hb dX7_gainNow_7 rfl (lv_at hl 2 rfl) ?_
  refine lv_iload_n hx hb dX7_gainNow_8 rfl (lv_at hl 0 rfl) ?_
  refine lv_sipush (v := 200) hx hb dX7_gainNow_9 (by decide) ?_
  replace h := bd h
  obtain ⟨t4, ht, h⟩ := h
  have K4 : ∀ (H : Heap) (locs : List Loc) (ls : Array Slot), SP D cy S H → (∀ a, S a ≠ none → (dm S s.heap.size) a) → va_S (dm S s.heap.size) s.heap H locs → lv_has ls 3 [(0, .ref a0), (1, .int a1)] → W p l e rm_X7_gainNow s m ([.ref a0, .int a1] : List Value).toArray below meth c H locs 0 0 (MQ below (va_Qi (fun r' (_ : Unit) => r' = r) (fun _ t => PoS D cy S1 (dm S s.heap.size) t) (dm S s.heap.size)) ([.ref a0, .int a1] : List Value).toArray s 0 0 (dm S s.heap.size)) (F0 m 22 ls [.int t4, .int a1, .ref a0]) := by
    intro H locs ls hP hD hS hl
    replace h := bd h
    obtain ⟨_, q6, h⟩ := h
    replace h := bd h
    obtain ⟨z8, q7, h⟩ := h
    refine c_X7_regretThen ⟨hx, hb, hml, hown, hts⟩ hl.1 hK hP hD hA hS wd_1209 ⟨(Nat.le_of_ble_eq_true rfl), (Nat.le_of_ble_eq_true rfl)⟩ q7 q6 (Nat.le_of_ble_eq_true rfl) dX7_gainNow_22 ⟨(Nat.le_of_ble_eq_true rfl), (Nat.le_of_ble_eq_true rfl)⟩ (fun H locs hP hD hS => ?_)
    refine lv_aload_n hx hb dX7_gainNow_25 rfl (lv_at hl 0 rfl) ?_
    refine lv_iload_n hx hb dX7_gainNow_26 rfl (lv_at hl 1 rfl) ?_
    replace h := bd h
    obtain ⟨_, q9, h⟩ := h
    replace h := bd h
    obtain ⟨x11, q10, h⟩ := h
    refine c_X7_fineOf ⟨hx, hb, hml, hown, hts⟩ hl.1 hK hP hS wd_1100 ⟨(Nat.le_of_ble_eq_true rfl), (Nat.le_of_ble_eq_true rfl)⟩ q10 q9 (Nat.le_of_ble_eq_true rfl) dX7_gainNow_27 ⟨(Nat.le_of_ble_eq_true rfl), (Nat.le_of_ble_eq_true rfl)⟩ (fun H locs hP hS => ?_)
    refine lv_isub hx hb dX7_gainNow_30 ?_
    cases h
    exact e_im hx hb hlocks hr hP hD hS (Nat.le_of_ble_eq_true rfl) (Nat.le_of_ble_eq_true rfl) dX7_gainNow_31
  replace h := ht
  refine lv_icmp_le (tgt := 21) hx hb dX7_gainNow_12 (by decide) (fun c5 => ?_) (fun c5 => ?_)
  · replace h := ifp c5 h
    refine lv_iload_n hx hb dX7_gainNow_21 rfl (lv_at hl 0 rfl) ?_
    cases h
    exact K4 _ _ _ hP hD hS (lv_sub hl [1, 2] rfl)
  · replace h := ifn c5 h
    refine lv_sipush (v := 200) hx hb dX7_gainNow_15 (by decide) ?_
    refine lv_goto (tgt := 22) hx hb dX7_gainNow_18 (by decide) ?_
    cases h
    exact K4 _ _ _ hP hD hS (lv_sub hl [1, 2] rfl)
set_option maxRecDepth 100000 in
theorem c_X7_gainNow {p : Program} {l : Launch} {e : Env} {R : Room} {s : State} {m : MethodId} {args : Array Value} {below : List Frame} {meth : Method} {c : Code} {H : Heap} {locs : List Loc} {cells slots : Nat} {Q : State → Prop} {cc : ByteArray} {pc index nL : Nat} {ls : Array Slot} {rest : List Value} {D : va_G} {cy : Nat → ClassId} {A0 : Nat → Prop} {S : St} {H0 : Heap} {own : String} {u : Unit} {a0 : Nat} {a1 : Int32} {r : Int32} {S1 : St}  (hF : CallFix p m c cc nL s args ALLW own) (hsz : ls.size = nL) (hK : va_K D vwCl (tyL cy) s) (hP : SP D cy S H) (hD : ∀ a, S a ≠ none → A0 a) (hA : ∀ q, H0.size ≤ q → A0 q) (hS : va_S A0 H0 H locs) (hk : Cond.methodLink own index yX7_gainNow ∈ ALLW) (hR : rm_X7_gainNow.frames + 1 ≤ R.frames ∧ 8 + (3 + 11) + rm_X7_gainNow.locals ≤ R.locals) (h : f_X7_gainNow S a0 a1 = some (r, S1)) (hc : oO S a0 6 = some u) (hW : (rest.map fun v => v.category).sum ≤ 8) (hdg : decode cc pc = .ok (.invokevirtual index, 3)) (hf : cells + 0 ≤ R.cells ∧ slots + 0 ≤ R.slots)
    (kk : ∀ (H1 : Heap) (locs1 : List Loc), SP D cy S1 H1 → (∀ a, S1 a ≠ none → A0 a) → va_S A0 H0 H1 locs1 → W p l e R s m args below meth c H1 locs1 (cells + 0) (slots + 0) Q (F0 m (pc + 3) ls (.int r :: rest))) : W p l e R s m args below meth c H locs cells slots Q (F0 m pc ls (.int a1 :: .ref a0 :: rest)) := by
  exact k_iVm (As := [.int a1]) hF hsz (m_X7_gainNow l D cy H.size S a0 a1 r S1 h) (cwV_of (n := 1) hF.2.2.2.2 hk wd_1219 wd_62 wd_75 wd_1220 rfl rfl (by decide +kernel) hR) rfl hK hP hD hA hS (ci := 6) hc rfl hW rfl hdg hf kk
/-- VowBlocksModel.gain(I)I -/
def f_X7_gain (S : St) (a0 : Nat) (a1 : Int32) : Option (Int32 × St) :=
  (oO S a0 6).bind fun _ =>
  (f_X7_isBlock S a0 a1).bind fun x3 =>
  (
    if x3 = 0 then
      some 1
    else
      some 0
  : Option (Int32)).bind fun t4 =>
  (pI S a0 6 5 t4).bind fun Z6 =>
  (gI Z6 a0 6 5).bind fun x8 =>
  (
    if x8 ≤ 0 then
      (oO Z6 a0 6).bind fun _ =>
      (f_X7_gainNow Z6 a0 a1).bind fun z14 =>
      some (z14.1, z14.2)
    else
      some (0, Z6)
  : Option (Int32 × St)).bind fun t10 =>
  some (t10.1, t10.2)
abbrev rm_X7_gain : Room := { frames := 8, cells := 0, slots := 0, locals := 176 }
set_option maxHeartbeats 4000000 in
set_option maxRecDepth 100000 in
theorem m_X7_gain (l : Launch) (D : va_G) (cy : Nat → ClassId) (sz : Nat) (S : St) (a0 : Nat) (a1 : Int32) (r : Int32) (S1 : St) (h : f_X7_gain S a0 a1 = some (r, S1)) : Met l yX7_gain (wsA yX7_gain cX7_gain 2 (some .int)) rm_X7_gain (va_Pc [.ref a0, .int a1] (PN D cy S sz)) (va_Qi (fun r' (_ : Unit) => r' = r) (fun _ t => PoS D cy S1 (dm S sz) t) (dm S sz)) 0 0 (dm S sz) := by
  refine Met.ofW (cc := cX7_gain) (maxL := 2) (ret := (some .int)) (by decide) rfl ?_
  intro p e s m args below meth c s₁ B hml hv
  obtain ⟨rfl, hsz, hP, hK⟩ := hv
  have hx := B.exec
  have hb := B.bytes
  have hr := B.returns
  have hts9 := atoms_spec (ws := wsA yX7_gain cX7_gain 2 (some .int)) B.pre
  have hts : ∀ w ∈ ALLW, w.before _ s = true := fun w h => hts9 w (List.mem_cons_of_mem _ h)
  have hown : s.vm.findClass RX7 = some m.cls := findClass_of_methodNamed B.named
  have hlocks := B.notSynchronized
  subst hsz
  have hD : ∀ a, S a ≠ none → dm S s.heap.size a := fun a h => Or.inl h
  have hA : ∀ q : Nat, s.heap.size ≤ q → dm S s.heap.size q := fun q h => Or.inr h
  have hS : va_S (dm S s.heap.size) s.heap s.heap [] := va_S.rf
  have hl := lv_entry [.ref a0, .int a1] (n := 2) (Nat.le_of_ble_eq_true rfl)
  rw [lg_entry_eq]
  generalize (lg_sl [.ref a0, .int a1] ++ List.replicate (2 - (lg_sl [.ref a0, .int a1]).length) Slot.unset).toArray = ls at hl ⊢
  have hl : lv_has ls 2 [(0, .ref a0), (1, .int a1)] := hl
  rw [f_X7_gain] at h
  refine lv_aload_n hx hb dX7_gain_0 rfl (lv_at hl 0 rfl) ?_
  refine lv_aload_n hx hb dX7_gain_1 rfl (lv_at hl 0 rfl) ?_
  refine lv_iload_n hx hb dX7_gain_2 rfl (lv_at hl 1 rfl) ?_
  replace h := bd h
  obtain ⟨_, q1, h⟩ := h
  replace h := bd h
  obtain ⟨x3, q2, h⟩ := h
  refine c_X7_isBlock ⟨hx, hb, hml, hown, hts⟩ hl.1 hK hP hS wd_1044 ⟨(Nat.le_of_ble_eq_true rfl), (Nat.le_of_ble_eq_true rfl)⟩ q2 q1 (Nat.le_of_ble_eq_true rfl) dX7_gain_3 ⟨(Nat.le_of_ble_eq_true rfl), (Nat.le_of_ble_eq_true rfl)⟩ (fun H locs hP hS => ?_)
  replace h := bd h
  obtain ⟨t4, ht, h⟩ := h
  have K4 : ∀ (H : Heap) (locs : List Loc) (ls : Array Slot), SP D cy S H → (∀ a, S a ≠ none → (dm S s.heap.size) a) → va_S (dm S s.heap.size) s.heap H locs → lv_has ls 2 [(0, .ref a0), (1, .int a1)] → W p l e rm_X7_gain s m ([.ref a0, .int a1] : List Value).toArray below meth c H locs 0 0 (MQ below (va_Qi (fun r' (_ : Unit) => r' = r) (fun _ t => PoS D cy S1 (dm S s.heap.size) t) (dm S s.heap.size)) ([.ref a0, .int a1] : List Value).toArray s 0 0 (dm S s.heap.size)) (F0 m 14 ls [.int t4, .ref a0]) := by
    intro H locs ls hP hD hS hl
    replace h := bd h
    obtain ⟨Z6, q7, h⟩ := h
    refine fp_6_5 hx hb hts hown hK hP hD hS wd_892 q7 dX7_gain_14 (fun H locs hz9 hP hD hS => ?_)
    refine lv_aload_n hx hb dX7_gain_17 rfl (lv_at hl 0 rfl) ?_
    replace h := bd h
    obtain ⟨x8, q9, h⟩ := h
    refine fg_6_5 hx hb hts hown hK hP wd_892 q9 dX7_gain_18 ?_
    replace h := bd h
    obtain ⟨t10, ht, h⟩ := h
    have K10 : ∀ (H : Heap) (locs : List Loc) (ls : Array Slot), SP D cy t10.2 H → (∀ a, t10.2 a ≠ none → (dm S s.heap.size) a) → va_S (dm S s.heap.size) s.heap H locs → lv_has ls 2 [] → W p l e rm_X7_gain s m ([.ref a0, .int a1] : List Value).toArray below meth c H locs 0 0 (MQ below (va_Qi (fun r' (_ : Unit) => r' = r) (fun _ t => PoS D cy S1 (dm S s.heap.size) t) (dm S s.heap.size)) ([.ref a0, .int a1] : List Value).toArray s 0 0 (dm S s.heap.size)) (F0 m 33 ls [.int t10.1]) := by
      intro H locs ls hP hD hS hl
      cases h
      exact e_im hx hb hlocks hr hP hD hS (Nat.le_of_ble_eq_true rfl) (Nat.le_of_ble_eq_true rfl) dX7_gain_33
    replace h := ht
    refine lv_if_le (tgt := 28) hx hb dX7_gain_21 (by decide) (fun c11 => ?_) (fun c11 => ?_)
    · replace h := ifp c11 h
      refine lv_aload_n hx hb dX7_gain_28 rfl (lv_at hl 0 rfl) ?_
      refine lv_iload_n hx hb dX7_gain_29 rfl (lv_at hl 1 rfl) ?_
      replace h := bd h
      obtain ⟨_, q12, h⟩ := h
      replace h := bd h
      obtain ⟨z14, q13, h⟩ := h
      refine c_X7_gainNow ⟨hx, hb, hml, hown, hts⟩ hl.1 hK hP hD hA hS wd_1217 ⟨(Nat.le_of_ble_eq_true rfl), (Nat.le_of_ble_eq_true rfl)⟩ q13 q12 (Nat.le_of_ble_eq_true rfl) dX7_gain_30 ⟨(Nat.le_of_ble_eq_true rfl), (Nat.le_of_ble_eq_true rfl)⟩ (fun H locs hP hD hS => ?_)
      cases h
      exact K10 _ _ _ hP hD hS (lv_sub hl [] rfl)
    · replace h := ifn c11 h
      refine lv_iconst (v := 0) hx hb dX7_gain_24 (by decide) ?_
      refine lv_goto (tgt := 33) hx hb dX7_gain_25 (by decide) ?_
      cases h
      exact K10 _ _ _ hP hD hS (lv_sub hl [] rfl)
  replace h := ht
  refine lv_if_eq (tgt := 13) hx hb dX7_gain_6 (by decide) (fun c5 => ?_) (fun c5 => ?_)
  · replace h := ifp c5 h
    refine lv_iconst (v := 1) hx hb dX7_gain_13 (by decide) ?_
    cases h
    exact K4 _ _ _ hP hD hS (lv_sub hl [0, 1] rfl)
  · replace h := ifn c5 h
    refine lv_iconst (v := 0) hx hb dX7_gain_9 (by decide) ?_
    refine lv_goto (tgt := 14) hx hb dX7_gain_10 (by decide) ?_
    cases h
    exact K4 _ _ _ hP hD hS (lv_sub hl [0, 1] rfl)
set_option maxRecDepth 100000 in
theorem c_X7_gain {p : Program} {l : Launch} {e : Env} {R : Room} {s : State} {m : MethodId} {args : Array Value} {below : List Frame} {meth : Method} {c : Code} {H : Heap} {locs : List Loc} {cells slots : Nat} {Q : State → Prop} {cc : ByteArray} {pc index nL : Nat} {ls : Array Slot} {rest : List Value} {D : va_G} {cy : Nat → ClassId} {A0 : Nat → Prop} {S : St} {H0 : Heap} {own : String} {u : Unit} {a0 : Nat} {a1 : Int32} {r : Int32} {S1 : St}  (hF : CallFix p m c cc nL s args ALLW own) (hsz : ls.size = nL) (hK : va_K D vwCl (tyL cy) s) (hP : SP D cy S H) (hD : ∀ a, S a ≠ none → A0 a) (hA : ∀ q, H0.size ≤ q → A0 q) (hS : va_S A0 H0 H locs) (hk : Cond.methodLink own index yX7_gain ∈ ALLW) (hR : rm_X7_gain.frames + 1 ≤ R.frames ∧ 8 + (2 + 11) + rm_X7_gain.locals ≤ R.locals) (h : f_X7_gain S a0 a1 = some (r, S1)) (hc : oO S a0 6 = some u) (hW : (rest.map fun v => v.category).sum ≤ 8) (hdg : decode cc pc = .ok (.invokevirtual index, 3)) (hf : cells + 0 ≤ R.cells ∧ slots + 0 ≤ R.slots)
    (kk : ∀ (H1 : Heap) (locs1 : List Loc), SP D cy S1 H1 → (∀ a, S1 a ≠ none → A0 a) → va_S A0 H0 H1 locs1 → W p l e R s m args below meth c H1 locs1 (cells + 0) (slots + 0) Q (F0 m (pc + 3) ls (.int r :: rest))) : W p l e R s m args below meth c H locs cells slots Q (F0 m pc ls (.int a1 :: .ref a0 :: rest)) := by
  exact k_iVm (As := [.int a1]) hF hsz (m_X7_gain l D cy H.size S a0 a1 r S1 h) (cwV_of (n := 1) hF.2.2.2.2 hk wd_1214 wd_1215 wd_75 wd_1216 rfl rfl (by decide +kernel) hR) rfl hK hP hD hA hS (ci := 6) hc rfl hW rfl hdg hf kk
/-- VowBlocksModel.cheapestNow(II)I -/
def f_X7_cheapestNow_L13 (y13_0 : Nat) (y13_1 : Int32) (y13_2 : Int32) : Nat → St → Int32 → Int32 → Int32 →  Option (Int32 × St)
  | 0, _, _, _, _ => none
  | fu + 1, S13_, y13_3, y13_4, y13_5 =>
    if 256 ≤ y13_5 then
      some (y13_3, S13_)
    else
      (gR S13_ y13_0 6 6).bind fun x7 =>
      (sI S13_ x7 y13_2 y13_5).bind fun Z9 =>
      (oO Z9 y13_0 6).bind fun _ =>
      (f_X7_of Z9 y13_0 y13_1 1).bind fun x13 =>
      (oO Z9 y13_0 6).bind fun _ =>
      (f_X7_costBy Z9 y13_0 x13).bind fun x16 =>
      (
        if y13_3 = (-1) then
          some 1
        else
          if y13_4 ≤ x16 then
            some 0
          else
            some 1
      : Option (Int32)).bind fun t17 =>
      (
        if t17 = 0 then
          some y13_3
        else
          some y13_5
      : Option (Int32)).bind fun t20 =>
      (
        if t17 = 0 then
          some y13_4
        else
          some x16
      : Option (Int32)).bind fun t22 =>
      f_X7_cheapestNow_L13 y13_0 y13_1 y13_2 fu Z9 t20 t22 (y13_5 + 1)
def f_X7_cheapestNow (S : St) (a0 : Nat) (a1 : Int32) (a2 : Int32) : Option (Int32 × St) :=
  (oO S a0 6).bind fun _ =>
  (f_X7_lay S a0 a1).bind fun z3 =>
  (f_X7_cheapestNow_L13 a0 a1 a2 FU z3 (-1) 0 0).bind fun z4 =>
  some (z4.1, z4.2)
abbrev rm_X7_cheapestNow : Room := { frames := 4, cells := 0, slots := 0, locals := 87 }
set_option maxHeartbeats 4000000 in
set_option maxRecDepth 100000 in
theorem m_X7_cheapestNow (l : Launch) (D : va_G) (cy : Nat → ClassId) (sz : Nat) (S : St) (a0 : Nat) (a1 : Int32) (a2 : Int32) (r : Int32) (S1 : St) (h : f_X7_cheapestNow S a0 a1 a2 = some (r, S1)) : Met l yX7_cheapestNow (wsA yX7_cheapestNow cX7_cheapestNow 8 (some .int)) rm_X7_cheapestNow (va_Pc [.ref a0, .int a1, .int a2] (PN D cy S sz)) (va_Qi (fun r' (_ : Unit) => r' = r) (fun _ t => PoS D cy S1 (dm S sz) t) (dm S sz)) 0 0 (dm S sz) := by
  refine Met.ofW (cc := cX7_cheapestNow) (maxL := 8) (ret := (some .int)) (by decide) rfl ?_
  intro p e s m args below meth c s₁ B hml hv
  obtain ⟨rfl, hsz, hP, hK⟩ := hv
  have hx := B.exec
  have hb := B.bytes
  have hr := B.returns
  have hts9 := atoms_spec (ws := wsA yX7_cheapestNow cX7_cheapestNow 8 (some .int)) B.pre
  have hts : ∀ w ∈ ALLW, w.before _ s = true := fun w h => hts9 w (List.mem_cons_of_mem _ h)
  have hown : s.vm.findClass RX7 = some m.cls := findClass_of_methodNamed B.named
  have hlocks := B.notSynchronized
  subst hsz
  have hD : ∀ a, S a ≠ none → dm S s.heap.size a := fun a h => Or.inl h
  have hA : ∀ q : Nat, s.heap.size ≤ q → dm S s.heap.size q := fun q h => Or.inr h
  have hS : va_S (dm S s.heap.size) s.heap s.heap [] := va_S.rf
  have hl := lv_entry [.ref a0, .int a1, .int a2] (n := 8) (Nat.le_of_ble_eq_true rfl)
  rw [lg_entry_eq]
  generalize (lg_sl [.ref a0, .int a1, .int a2] ++ List.replicate (8 - (lg_sl [.ref a0, .int a1, .int a2]).length) Slot.unset).toArray = ls at hl ⊢
  have hl : lv_has ls 8 [(0, .ref a0), (1, .int a1), (2, .int a2)] := hl
  rw [f_X7_cheapestNow] at h
  refine lv_aload_n hx hb dX7_cheapestNow_0 rfl (lv_at hl 0 rfl) ?_
  refine lv_iload_n hx hb dX7_cheapestNow_1 rfl (lv_at hl 1 rfl) ?_
  replace h := bd h
  obtain ⟨_, q1, h⟩ := h
  replace h := bd h
  obtain ⟨z3, q2, h⟩ := h
  refine c_X7_lay ⟨hx, hb, hml, hown, hts⟩ hl.1 hK hP hD hA hS wd_957 ⟨(Nat.le_of_ble_eq_true rfl), (Nat.le_of_ble_eq_true rfl)⟩ q2 q1 (Nat.le_of_ble_eq_true rfl) dX7_cheapestNow_2 ⟨(Nat.le_of_ble_eq_true rfl), (Nat.le_of_ble_eq_true rfl)⟩ (fun H locs hP hD hS => ?_)
  refine lv_iconst (v := (-1)) hx hb dX7_cheapestNow_5 (by decide) ?_
  refine lv_istore_n (lv' := [(3, .int (-1)), (0, .ref a0), (1, .int a1), (2, .int a2)]) hx hb dX7_cheapestNow_6 rfl hl (by decide) rfl (fun ls hl => ?_)
  refine lv_iconst (v := 0) hx hb dX7_cheapestNow_7 (by decide) ?_
  refine lv_istore (lv' := [(4, .int 0), (3, .int (-1)), (0, .ref a0), (1, .int a1), (2, .int a2)]) hx hb dX7_cheapestNow_8 hl (by decide) rfl (fun ls hl => ?_)
  refine lv_iconst (v := 0) hx hb dX7_cheapestNow_10 (by decide) ?_
  refine lv_istore (lv' := [(5, .int 0), (4, .int 0), (3, .int (-1)), (0, .ref a0), (1, .int a1), (2, .int a2)]) hx hb dX7_cheapestNow_11 hl (by decide) rfl (fun ls hl => ?_)
  have L13 : ∀ (y13_0 : Nat) (y13_1 : Int32) (y13_2 : Int32) (fu : Nat) (S13_ : St) (y13_3 : Int32) (y13_4 : Int32) (y13_5 : Int32) (res : Int32 × St), f_X7_cheapestNow_L13 y13_0 y13_1 y13_2 fu S13_ y13_3 y13_4 y13_5 = some res → ∀ (H : Heap) (locs : List Loc) (ls : Array Slot), SP D cy S13_ H → (∀ a, S13_ a ≠ none → (dm S s.heap.size) a) → va_S (dm S s.heap.size) s.heap H locs → lv_has ls 8 [(0, .ref y13_0), (1, .int y13_1), (2, .int y13_2), (3, .int y13_3), (4, .int y13_4), (5, .int y13_5)] → (∀ (H : Heap) (locs : List Loc) (ls : Array Slot), SP D cy res.2 H → (∀ a, res.2 a ≠ none → (dm S s.heap.size) a) → va_S (dm S s.heap.size) s.heap H locs → lv_has ls 8 [(3, .int res.1)] → W p l e rm_X7_cheapestNow s m ([.ref a0, .int a1, .int a2] : List Value).toArray below meth c H locs 0 0 (MQ below (va_Qi (fun r' (_ : Unit) => r' = r) (fun _ t => PoS D cy S1 (dm S s.heap.size) t) (dm S s.heap.size)) ([.ref a0, .int a1, .int a2] : List Value).toArray s 0 0 (dm S s.heap.size)) (F0 m 92 ls [])) → W p l e rm_X7_cheapestNow s m ([.ref a0, .int a1, .int a2] : List Value).toArray below meth c H locs 0 0 (MQ below (va_Qi (fun r' (_ : Unit) => r' = r) (fun _ t => PoS D cy S1 (dm S s.heap.size) t) (dm S s.heap.size)) ([.ref a0, .int a1, .int a2] : List Value).toArray s 0 0 (dm S s.heap.size)) (F0 m 13 ls []) := by
    intro y13_0 y13_1 y13_2 fu
    induction fu with
    | zero =>
      intro S13_ y13_3 y13_4 y13_5 res h
      rw [f_X7_cheapestNow_L13] at h
      cases h
    | succ fu ih =>
      intro S13_ y13_3 y13_4 y13_5 res h H locs ls hP hD hS hl hexit
      rw [f_X7_cheapestNow_L13] at h
      refine lv_iload hx hb dX7_cheapestNow_13 (lv_at hl 5 rfl) ?_
      refine lv_sipush (v := 256) hx hb dX7_cheapestNow_15 (by decide) ?_
      refine lv_icmp_ge (tgt := 92) hx hb dX7_cheapestNow_18 (by decide) (fun c6 => ?_) (fun c6 => ?_)
      · replace h := ifp c6 h
        cases h
        exact hexit _ _ _ hP hD hS (lv_sub hl [3] rfl)
      · replace h := ifn c6 h
        refine lv_aload_n hx hb dX7_cheapestNow_21 rfl (lv_at hl 0 rfl) ?_
        replace h := bd h
        obtain ⟨x7, q8, h⟩ := h
        refine fg_6_6 hx hb hts hown hK hP wd_893 q8 dX7_cheapestNow_22 ?_
        refine lv_iload_n hx hb dX7_cheapestNow_25 rfl (lv_at hl 2 rfl) ?_
        refine lv_iload hx hb dX7_cheapestNow_26 (lv_at hl 5 rfl) ?_
        replace h := bd h
        obtain ⟨Z9, q10, h⟩ := h
        refine r_sI hx hb hK hP hD hS q10 dX7_cheapestNow_28 (fun H locs hz9 hP hD hS => ?_)
        refine lv_aload_n hx hb dX7_cheapestNow_29 rfl (lv_at hl 0 rfl) ?_
        refine lv_aload_n hx hb dX7_cheapestNow_30 rfl (lv_at hl 0 rfl) ?_
        refine lv_iload_n hx hb dX7_cheapestNow_31 rfl (lv_at hl 1 rfl) ?_
        refine lv_iconst (v := 1) hx hb dX7_cheapestNow_32 (by decide) ?_
        replace h := bd h
        obtain ⟨_, q11, h⟩ := h
        replace h := bd h
        obtain ⟨x13, q12, h⟩ := h
        refine c_X7_of ⟨hx, hb, hml, hown, hts⟩ hl.1 hK hP hS wd_961 ⟨(Nat.le_of_ble_eq_true rfl), (Nat.le_of_ble_eq_true rfl)⟩ q12 q11 (Nat.le_of_ble_eq_true rfl) dX7_cheapestNow_33 ⟨(Nat.le_of_ble_eq_true rfl), (Nat.le_of_ble_eq_true rfl)⟩ (fun H locs hP hS => ?_)
        replace h := bd h
        obtain ⟨_, q14, h⟩ := h
        replace h := bd h
        obtain ⟨x16, q15, h⟩ := h
        refine c_X7_costBy ⟨hx, hb, hml, hown, hts⟩ hl.1 hK hP hS wd_969 ⟨(Nat.le_of_ble_eq_true rfl), (Nat.le_of_ble_eq_true rfl)⟩ q15 q14 (Nat.le_of_ble_eq_true rfl) dX7_cheapestNow_36 ⟨(Nat.le_of_ble_eq_true rfl), (Nat.le_of_ble_eq_true rfl)⟩ (fun H locs hP hS => ?_)
        refine lv_istore (lv' := [(6, .int x16), (0, .ref y13_0), (1, .int y13_1), (2, .int y13_2), (3, .int y13_3), (4, .int y13_4), (5, .int y13_5)]) hx hb dX7_cheapestNow_39 hl (by decide) rfl (fun ls hl => ?_)
        refine lv_iload_n hx hb dX7_cheapestNow_41 rfl (lv_at hl 4 rfl) ?_
        refine lv_iconst (v := (-1)) hx hb dX7_cheapestNow_42 (by decide) ?_
        replace h := bd h
        obtain ⟨t17, ht, h⟩ := h
        have K17 : ∀ (H : Heap) (locs : List Loc) (ls : Array Slot), SP D cy Z9 H → (∀ a, Z9 a ≠ none → (dm S s.heap.size) a) → va_S (dm S s.heap.size) s.heap H locs → lv_has ls 8 [(0, .ref y13_0), (1, .int y13_1), (2, .int y13_2), (3, .int y13_3), (4, .int y13_4), (5, .int y13_5), (6, .int x16)] → W p l e rm_X7_cheapestNow s m ([.ref a0, .int a1, .int a2] : List Value).toArray below meth c H locs 0 0 (MQ below (va_Qi (fun r' (_ : Unit) => r' = r) (fun _ t => PoS D cy S1 (dm S s.heap.size) t) (dm S s.heap.size)) ([.ref a0, .int a1, .int a2] : List Value).toArray s 0 0 (dm S s.heap.size)) (F0 m 58 ls [.int t17]) := by
          intro H locs ls hP hD hS hl
          refine lv_istore (lv' := [(7, .int t17), (0, .ref y13_0), (1, .int y13_1), (2, .int y13_2), (3, .int y13_3), (4, .int y13_4), (5, .int y13_5), (6, .int x16)]) hx hb dX7_cheapestNow_58 hl (by decide) rfl (fun ls hl => ?_)
          refine lv_iload hx hb dX7_cheapestNow_60 (lv_at hl 0 rfl) ?_
          replace h := bd h
          obtain ⟨t20, ht, h⟩ := h
          have K20 : ∀ (H : Heap) (locs : List Loc) (ls : Array Slot), SP D cy Z9 H → (∀ a, Z9 a ≠ none → (dm S s.heap.size) a) → va_S (dm S s.heap.size) s.heap H locs → lv_has ls 8 [(0, .ref y13_0), (1, .int y13_1), (2, .int y13_2), (4, .int y13_4), (5, .int y13_5), (6, .int x16), (7, .int t17)] → W p l e rm_X7_cheapestNow s m ([.ref a0, .int a1, .int a2] : List Value).toArray below meth c H locs 0 0 (MQ below (va_Qi (fun r' (_ : Unit) => r' = r) (fun _ t => PoS D cy S1 (dm S s.heap.size) t) (dm S s.heap.size)) ([.ref a0, .int a1, .int a2] : List Value).toArray s 0 0 (dm S s.heap.size)) (F0 m 71 ls [.int t20]) := by
            intro H locs ls hP hD hS hl
            refine lv_istore_n (lv' := [(3, .int t20), (0, .ref y13_0), (1, .int y13_1), (2, .int y13_2), (4, .int y13_4), (5, .int y13_5), (6, .int x16), (7, .int t17)]) hx hb dX7_cheapestNow_71 rfl hl (by decide) rfl (fun ls hl => ?_)
            refine lv_iload hx hb dX7_cheapestNow_72 (lv_at hl 7 rfl) ?_
            replace h := bd h
            obtain ⟨t22, ht, h⟩ := h
            have K22 : ∀ (H : Heap) (locs : List Loc) (ls : Array Slot), SP D cy Z9 H → (∀ a, Z9 a ≠ none → (dm S s.heap.size) a) → va_S (dm S s.heap.size) s.heap H locs → lv_has ls 8 [(0, .ref y13_0), (1, .int y13_1), (2, .int y13_2), (3, .int t20), (5, .int y13_5)] → W p l e rm_X7_cheapestNow s m ([.ref a0, .int a1, .int a2] : List Value).toArray below meth c H locs 0 0 (MQ below (va_Qi (fun r' (_ : Unit) => r' = r) (fun _ t => PoS D cy S1 (dm S s.heap.size) t) (dm S s.heap.size)) ([.ref a0, .int a1, .int a2] : List Value).toArray s 0 0 (dm S s.heap.size)) (F0 m 84 ls [.int t22]) := by
              intro H locs ls hP hD hS hl
              refine lv_istore (lv' := [(4, .int t22), (0, .ref y13_0), (1, .int y13_1), (2, .int y13_2), (3, .int t20), (5, .int y13_5)]) hx hb dX7_cheapestNow_84 hl (by decide) rfl (fun ls hl => ?_)
              refine lv_iinc (v := (y13_5 + 1)) (lv' := [(5, .int (y13_5 + 1)), (4, .int t22), (0, .ref y13_0), (1, .int y13_1), (2, .int y13_2), (3, .int t20)]) hx hb dX7_cheapestNow_86 hl (k := 5) rfl rfl (by decide) rfl (fun ls hl => ?_)
              refine lv_goto (tgt := 13) hx hb dX7_cheapestNow_89 (by decide) ?_
              exact ih Z9 t20 t22 (y13_5 + 1) _ h _ _ _ hP hD hS (lv_sub hl [2, 3, 4, 5, 1, 0] rfl) hexit
            replace h := ht
            refine lv_if_eq (tgt := 82) hx hb dX7_cheapestNow_74 (by decide) (fun c23 => ?_) (fun c23 => ?_)
            · replace h := ifp c23 h
              refine lv_iload hx hb dX7_cheapestNow_82 (lv_at hl 4 rfl) ?_
              cases h
              exact K22 _ _ _ hP hD hS (lv_sub hl [1, 2, 3, 0, 5] rfl)
            · replace h := ifn c23 h
              refine lv_iload hx hb dX7_cheapestNow_77 (lv_at hl 6 rfl) ?_
              refine lv_goto (tgt := 84) hx hb dX7_cheapestNow_79 (by decide) ?_
              cases h
              exact K22 _ _ _ hP hD hS (lv_sub hl [1, 2, 3, 0, 5] rfl)
          replace h := ht
          refine lv_if_eq (tgt := 70) hx hb dX7_cheapestNow_62 (by decide) (fun c21 => ?_) (fun c21 => ?_)
          · replace h := ifp c21 h
            refine lv_iload_n hx hb dX7_cheapestNow_70 rfl (lv_at hl 4 rfl) ?_
            cases h
            exact K20 _ _ _ hP hD hS (lv_sub hl [1, 2, 3, 5, 6, 7, 0] rfl)
          · replace h := ifn c21 h
            refine lv_iload hx hb dX7_cheapestNow_65 (lv_at hl 6 rfl) ?_
            refine lv_goto (tgt := 71) hx hb dX7_cheapestNow_67 (by decide) ?_
            cases h
            exact K20 _ _ _ hP hD hS (lv_sub hl [1, 2, 3, 5, 6, 7, 0] rfl)
        replace h := ht
        refine lv_icmp_eq (tgt := 53) hx hb dX7_cheapestNow_43 (by decide) (fun c18 => ?_) (fun c18 => ?_)
        · replace h := ifp c18 h
          refine lv_iconst (v := 1) hx hb dX7_cheapestNow_53 (by decide) ?_
          refine lv_goto (tgt := 58) hx hb dX7_cheapestNow_54 (by decide) ?_
          cases h
          exact K17 _ _ _ hP hD hS (lv_sub hl [1, 2, 3, 4, 5, 6, 0] rfl)
        · replace h := ifn c18 h
          refine lv_iload hx hb dX7_cheapestNow_46 (lv_at hl 0 rfl) ?_
          refine lv_iload hx hb dX7_cheapestNow_48 (lv_at hl 5 rfl) ?_
          refine lv_icmp_ge (tgt := 57) hx hb dX7_cheapestNow_50 (by decide) (fun c19 => ?_) (fun c19 => ?_)
          · replace h := ifp c19 h
            refine lv_iconst (v := 0) hx hb dX7_cheapestNow_57 (by decide) ?_
            cases h
            exact K17 _ _ _ hP hD hS (lv_sub hl [1, 2, 3, 4, 5, 6, 0] rfl)
          · replace h := ifn c19 h
            refine lv_iconst (v := 1) hx hb dX7_cheapestNow_53 (by decide) ?_
            refine lv_goto (tgt := 58) hx hb dX7_cheapestNow_54 (by decide) ?_
            cases h
            exact K17 _ _ _ hP hD hS (lv_sub hl [1, 2, 3, 4, 5, 6, 0] rfl)
  replace h := bd h
  obtain ⟨z4, q24, h⟩ := h
  refine L13 a0 a1 a2 FU z3 (-1) 0 0 z4 q24 _ _ _ hP hD hS (lv_sub hl [3, 4, 5, 2, 1, 0] rfl) (fun H locs ls hP hD hS hl => ?_)
  refine lv_iload_n hx hb dX7_cheapestNow_92 rfl (lv_at hl 0 rfl) ?_
  cases h
  exact e_im hx hb hlocks hr hP hD hS (Nat.le_of_ble_eq_true rfl) (Nat.le_of_ble_eq_true rfl) dX7_cheapestNow_93
set_option maxRecDepth 100000 in
theorem c_X7_cheapestNow {p : Program} {l : Launch} {e : Env} {R : Room} {s : State} {m : MethodId} {args : Array Value} {below : List Frame} {meth : Method} {c : Code} {H : Heap} {locs : List Loc} {cells slots : Nat} {Q : State → Prop} {cc : ByteArray} {pc index nL : Nat} {ls : Array Slot} {rest : List Value} {D : va_G} {cy : Nat → ClassId} {A0 : Nat → Prop} {S : St} {H0 : Heap} {own : String} {u : Unit} {a0 : Nat} {a1 : Int32} {a2 : Int32} {r : Int32} {S1 : St}  (hF : CallFix p m c cc nL s args ALLW own) (hsz : ls.size = nL) (hK : va_K D vwCl (tyL cy) s) (hP : SP D cy S H) (hD : ∀ a, S a ≠ none → A0 a) (hA : ∀ q, H0.size ≤ q → A0 q) (hS : va_S A0 H0 H locs) (hk : Cond.methodLink own index yX7_cheapestNow ∈ ALLW) (hR : rm_X7_cheapestNow.frames + 1 ≤ R.frames ∧ 8 + (8 + 11) + rm_X7_cheapestNow.locals ≤ R.locals) (h : f_X7_cheapestNow S a0 a1 a2 = some (r, S1)) (hc : oO S a0 6 = some u) (hW : (rest.map fun v => v.category).sum ≤ 8) (hdg : decode cc pc = .ok (.invokevirtual index, 3)) (hf : cells + 0 ≤ R.cells ∧ slots + 0 ≤ R.slots)
    (kk : ∀ (H1 : Heap) (locs1 : List Loc), SP D cy S1 H1 → (∀ a, S1 a ≠ none → A0 a) → va_S A0 H0 H1 locs1 → W p l e R s m args below meth c H1 locs1 (cells + 0) (slots + 0) Q (F0 m (pc + 3) ls (.int r :: rest))) : W p l e R s m args below meth c H locs cells slots Q (F0 m pc ls (.int a2 :: .int a1 :: .ref a0 :: rest)) := by
  exact k_iVm (As := [.int a1, .int a2]) hF hsz (m_X7_cheapestNow l D cy H.size S a0 a1 a2 r S1 h) (cwV_of (n := 2) hF.2.2.2.2 hk wd_1227 wd_63 wd_75 wd_1228 rfl rfl (by decide +kernel) hR) rfl hK hP hD hA hS (ci := 6) hc rfl hW rfl hdg hf kk
/-- VowBlocksModel.cheapest(II)I -/
def f_X7_cheapest (S : St) (a0 : Nat) (a1 : Int32) (a2 : Int32) : Option (Int32 × St) :=
  (oO S a0 6).bind fun _ =>
  (f_X7_isPlace S a0 a1 a2).bind fun x3 =>
  (
    if x3 = 0 then
      some 1
    else
      some 0
  : Option (Int32)).bind fun t4 =>
  (pI S a0 6 5 t4).bind fun Z6 =>
  (gI Z6 a0 6 5).bind fun x8 =>
  (
    if x8 ≤ 0 then
      (oO Z6 a0 6).bind fun _ =>
      (f_X7_cheapestNow Z6 a0 a1 a2).bind fun z14 =>
      some (z14.1, z14.2)
    else
      some (0, Z6)
  : Option (Int32 × St)).bind fun t10 =>
  some (t10.1, t10.2)
abbrev rm_X7_cheapest : Room := { frames := 5, cells := 0, slots := 0, locals := 114 }
set_option maxHeartbeats 4000000 in
set_option maxRecDepth 100000 in
theorem m_X7_cheapest (l : Launch) (D : va_G) (cy : Nat → ClassId) (sz : Nat) (S : St) (a0 : Nat) (a1 : Int32) (a2 : Int32) (r : Int32) (S1 : St) (h : f_X7_cheapest S a0 a1 a2 = some (r, S1)) : Met l yX7_cheapest (wsA yX7_cheapest cX7_cheapest 3 (some .int)) rm_X7_cheapest (va_Pc [.ref a0, .int a1, .int a2] (PN D cy S sz)) (va_Qi (fun r' (_ : Unit) => r' = r) (fun _ t => PoS D cy S1 (dm S sz) t) (dm S sz)) 0 0 (dm S sz) := by
  refine Met.ofW (cc := cX7_cheapest) (maxL := 3) (ret := (some .int)) (by decide) rfl ?_
  intro p e s m args below meth c s₁ B hml hv
  obtain ⟨rfl, hsz, hP, hK⟩ := hv
  have hx := B.exec
  have hb := B.bytes
  have hr := B.returns
  have hts9 := atoms_spec (ws := wsA yX7_cheapest cX7_cheapest 3 (some .int)) B.pre
  have hts : ∀ w ∈ ALLW, w.before _ s = true := fun w h => hts9 w (List.mem_cons_of_mem _ h)
  have hown : s.vm.findClass RX7 = some m.cls := findClass_of_methodNamed B.named
  have hlocks := B.notSynchronized
  subst hsz
  have hD : ∀ a, S a ≠ none → dm S s.heap.size a := fun a h => Or.inl h
  have hA : ∀ q : Nat, s.heap.size ≤ q → dm S s.heap.size q := fun q h => Or.inr h
  have hS : va_S (dm S s.heap.size) s.heap s.heap [] := va_S.rf
  have hl := lv_entry [.ref a0, .int a1, .int a2] (n := 3) (Nat.le_of_ble_eq_true rfl)
  rw [lg_entry_eq]
  generalize (lg_sl [.ref a0, .int a1, .int a2] ++ List.replicate (3 - (lg_sl [.ref a0, .int a1, .int a2]).length) Slot.unset).toArray = ls at hl ⊢
  have hl : lv_has ls 3 [(0, .ref a0), (1, .int a1), (2, .int a2)] := hl
  rw [f_X7_cheapest] at h
  refine lv_aload_n hx hb dX7_cheapest_0 rfl (lv_at hl 0 rfl) ?_
  refine lv_aload_n hx hb dX7_cheapest_1 rfl (lv_at hl 0 rfl) ?_
  refine lv_iload_n hx hb dX7_cheapest_2 rfl (lv_at hl 1 rfl) ?_
  refine lv_iload_n hx hb dX7_cheapest_3 rfl (lv_at hl 2 rfl) ?_
  replace h := bd h
  obtain ⟨_, q1, h⟩ := h
  replace h := bd h
  obtain ⟨x3, q2, h⟩ := h
  refine c_X7_isPlace ⟨hx, hb, hml, hown, hts⟩ hl.1 hK hP hS wd_1052 ⟨(Nat.le_of_ble_eq_true rfl), (Nat.le_of_ble_eq_true rfl)⟩ q2 q1 (Nat.le_of_ble_eq_true rfl) dX7_cheapest_4 ⟨(Nat.le_of_ble_eq_true rfl), (Nat.le_of_ble_eq_true rfl)⟩ (fun H locs hP hS => ?_)
  replace h := bd h
  obtain ⟨t4, ht, h⟩ := h
  have K4 : ∀ (H : Heap) (locs : List Loc) (ls : Array Slot), SP D cy S H → (∀ a, S a ≠ none → (dm S s.heap.size) a) → va_S (dm S s.heap.size) s.heap H locs → lv_has ls 3 [(0, .ref a0), (1, .int a1), (2, .int a2)] → W p l e rm_X7_cheapest s m ([.ref a0, .int a1, .int a2] : List Value).toArray below meth c H locs 0 0 (MQ below (va_Qi (fun r' (_ : Unit) => r' = r) (fun _ t => PoS D cy S1 (dm S s.heap.size) t) (dm S s.heap.size)) ([.ref a0, .int a1, .int a2] : List Value).toArray s 0 0 (dm S s.heap.size)) (F0 m 15 ls [.int t4, .ref a0]) := by
    intro H locs ls hP hD hS hl
    replace h := bd h
    obtain ⟨Z6, q7, h⟩ := h
    refine fp_6_5 hx hb hts hown hK hP hD hS wd_892 q7 dX7_cheapest_15 (fun H locs hz9 hP hD hS => ?_)
    refine lv_aload_n hx hb dX7_cheapest_18 rfl (lv_at hl 0 rfl) ?_
    replace h := bd h
    obtain ⟨x8, q9, h⟩ := h
    refine fg_6_5 hx hb hts hown hK hP wd_892 q9 dX7_cheapest_19 ?_
    replace h := bd h
    obtain ⟨t10, ht, h⟩ := h
    have K10 : ∀ (H : Heap) (locs : List Loc) (ls : Array Slot), SP D cy t10.2 H → (∀ a, t10.2 a ≠ none → (dm S s.heap.size) a) → va_S (dm S s.heap.size) s.heap H locs → lv_has ls 3 [] → W p l e rm_X7_cheapest s m ([.ref a0, .int a1, .int a2] : List Value).toArray below meth c H locs 0 0 (MQ below (va_Qi (fun r' (_ : Unit) => r' = r) (fun _ t => PoS D cy S1 (dm S s.heap.size) t) (dm S s.heap.size)) ([.ref a0, .int a1, .int a2] : List Value).toArray s 0 0 (dm S s.heap.size)) (F0 m 35 ls [.int t10.1]) := by
      intro H locs ls hP hD hS hl
      cases h
      exact e_im hx hb hlocks hr hP hD hS (Nat.le_of_ble_eq_true rfl) (Nat.le_of_ble_eq_true rfl) dX7_cheapest_35
    replace h := ht
    refine lv_if_le (tgt := 29) hx hb dX7_cheapest_22 (by decide) (fun c11 => ?_) (fun c11 => ?_)
    · replace h := ifp c11 h
      refine lv_aload_n hx hb dX7_cheapest_29 rfl (lv_at hl 0 rfl) ?_
      refine lv_iload_n hx hb dX7_cheapest_30 rfl (lv_at hl 1 rfl) ?_
      refine lv_iload_n hx hb dX7_cheapest_31 rfl (lv_at hl 2 rfl) ?_
      replace h := bd h
      obtain ⟨_, q12, h⟩ := h
      replace h := bd h
      obtain ⟨z14, q13, h⟩ := h
      refine c_X7_cheapestNow ⟨hx, hb, hml, hown, hts⟩ hl.1 hK hP hD hA hS wd_1225 ⟨(Nat.le_of_ble_eq_true rfl), (Nat.le_of_ble_eq_true rfl)⟩ q13 q12 (Nat.le_of_ble_eq_true rfl) dX7_cheapest_32 ⟨(Nat.le_of_ble_eq_true rfl), (Nat.le_of_ble_eq_true rfl)⟩ (fun H locs hP hD hS => ?_)
      cases h
      exact K10 _ _ _ hP hD hS (lv_sub hl [] rfl)
    · replace h := ifn c11 h
      refine lv_iconst (v := 0) hx hb dX7_cheapest_25 (by decide) ?_
      refine lv_goto (tgt := 35) hx hb dX7_cheapest_26 (by decide) ?_
      cases h
      exact K10 _ _ _ hP hD hS (lv_sub hl [] rfl)
  replace h := ht
  refine lv_if_eq (tgt := 14) hx hb dX7_cheapest_7 (by decide) (fun c5 => ?_) (fun c5 => ?_)
  · replace h := ifp c5 h
    refine lv_iconst (v := 1) hx hb dX7_cheapest_14 (by decide) ?_
    cases h
    exact K4 _ _ _ hP hD hS (lv_sub hl [0, 1, 2] rfl)
  · replace h := ifn c5 h
    refine lv_iconst (v := 0) hx hb dX7_cheapest_10 (by decide) ?_
    refine lv_goto (tgt := 15) hx hb dX7_cheapest_11 (by decide) ?_
    cases h
    exact K4 _ _ _ hP hD hS (lv_sub hl [0, 1, 2] rfl)
set_option maxRecDepth 100000 in
theorem c_X7_cheapest {p : Program} {l : Launch} {e : Env} {R : Room} {s : State} {m : MethodId} {args : Array Value} {below : List Frame} {meth : Method} {c : Code} {H : Heap} {locs : List Loc} {cells slots : Nat} {Q : State → Prop} {cc : ByteArray} {pc index nL : Nat} {ls : Array Slot} {rest : List Value} {D : va_G} {cy : Nat → ClassId} {A0 : Nat → Prop} {S : St} {H0 : Heap} {own : String} {u : Unit} {a0 : Nat} {a1 : Int32} {a2 : Int32} {r : Int32} {S1 : St}  (hF : CallFix p m c cc nL s args ALLW own) (hsz : ls.size = nL) (hK : va_K D vwCl (tyL cy) s) (hP : SP D cy S H) (hD : ∀ a, S a ≠ none → A0 a) (hA : ∀ q, H0.size ≤ q → A0 q) (hS : va_S A0 H0 H locs) (hk : Cond.methodLink own index yX7_cheapest ∈ ALLW) (hR : rm_X7_cheapest.frames + 1 ≤ R.frames ∧ 8 + (3 + 11) + rm_X7_cheapest.locals ≤ R.locals) (h : f_X7_cheapest S a0 a1 a2 = some (r, S1)) (hc : oO S a0 6 = some u) (hW : (rest.map fun v => v.category).sum ≤ 8) (hdg : decode cc pc = .ok (.invokevirtual index, 3)) (hf : cells + 0 ≤ R.cells ∧ slots + 0 ≤ R.slots)
    (kk : ∀ (H1 : Heap) (locs1 : List Loc), SP D cy S1 H1 → (∀ a, S1 a ≠ none → A0 a) → va_S A0 H0 H1 locs1 → W p l e R s m args below meth c H1 locs1 (cells + 0) (slots + 0) Q (F0 m (pc + 3) ls (.int r :: rest))) : W p l e R s m args below meth c H locs cells slots Q (F0 m pc ls (.int a2 :: .int a1 :: .ref a0 :: rest)) := by
  exact k_iVm (As := [.int a1, .int a2]) hF hsz (m_X7_cheapest l D cy H.size S a0 a1 a2 r S1 h) (cwV_of (n := 2) hF.2.2.2.2 hk wd_1222 wd_1223 wd_75 wd_1224 rfl rfl (by decide +kernel) hR) rfl hK hP hD hA hS (ci := 6) hc rfl hW rfl hdg hf kk
/-- VowBlocksModel.mateFor(I)I -/
def f_X7_mateFor_L7 (y7_0 : Nat) (y7_1 : Int32) : Nat → St → Int32 → Int32 → Int32 →  Option (Int32 × St)
  | 0, _, _, _, _ => none
  | fu + 1, S7_, y7_2, y7_3, y7_4 =>
    (gR S7_ y7_0 6 0).bind fun x3 =>
    (aI S7_ x3 2).bind fun x5 =>
    if x5 ≤ y7_4 then
      some (y7_2, S7_)
    else
      (oO S7_ y7_0 6).bind fun _ =>
      (f_X7_canJoin S7_ y7_0 y7_1 y7_4).bind fun x10 =>
      (
        if x10 = 0 then
          some (y7_2, y7_3, S7_)
        else
          (oO S7_ y7_0 6).bind fun _ =>
          (f_X7_layBoth S7_ y7_0 y7_1 y7_4).bind fun z15 =>
          (oO z15 y7_0 6).bind fun _ =>
          (f_X7_of z15 y7_0 y7_1 1).bind fun x18 =>
          (oO z15 y7_0 6).bind fun _ =>
          (f_X7_costBy z15 y7_0 x18).bind fun x21 =>
          (
            if y7_2 = (-1) then
              some 1
            else
              if y7_3 ≤ x21 then
                some 0
              else
                some 1
          : Option (Int32)).bind fun t22 =>
          (
            if t22 = 0 then
              some y7_2
            else
              some y7_4
          : Option (Int32)).bind fun t25 =>
          (
            if t22 = 0 then
              some y7_3
            else
              some x21
          : Option (Int32)).bind fun t27 =>
          some (t25, t27, z15)
      : Option (Int32 × Int32 × St)).bind fun t11 =>
      f_X7_mateFor_L7 y7_0 y7_1 fu t11.2.2 t11.1 t11.2.1 (y7_4 + 1)
def f_X7_mateFor (S : St) (a0 : Nat) (a1 : Int32) : Option (Int32 × St) :=
  (f_X7_mateFor_L7 a0 a1 FU S (-1) 0 0).bind fun z1 =>
  some (z1.1, z1.2)
abbrev rm_X7_mateFor : Room := { frames := 4, cells := 0, slots := 0, locals := 87 }
set_option maxHeartbeats 4000000 in
set_option maxRecDepth 100000 in
theorem m_X7_mateFor (l : Launch) (D : va_G) (cy : Nat → ClassId) (sz : Nat) (S : St) (a0 : Nat) (a1 : Int32) (r : Int32) (S1 : St) (h : f_X7_mateFor S a0 a1 = some (r, S1)) : Met l yX7_mateFor (wsA yX7_mateFor cX7_mateFor 7 (some .int)) rm_X7_mateFor (va_Pc [.ref a0, .int a1] (PN D cy S sz)) (va_Qi (fun r' (_ : Unit) => r' = r) (fun _ t => PoS D cy S1 (dm S sz) t) (dm S sz)) 0 0 (dm S sz) := by
  refine Met.ofW (cc := cX7_mateFor) (maxL := 7) (ret := (some .int)) (by decide) rfl ?_
  intro p e s m args below meth c s₁ B hml hv
  obtain ⟨rfl, hsz, hP, hK⟩ := hv
  have hx := B.exec
  have hb := B.bytes
  have hr := B.returns
  have hts9 := atoms_spec (ws := wsA yX7_mateFor cX7_mateFor 7 (some .int)) B.pre
  have hts : ∀ w ∈ ALLW, w.before _ s = true := fun w h => hts9 w (List.mem_cons_of_mem _ h)
  have hown : s.vm.findClass RX7 = some m.cls := findClass_of_methodNamed B.named
  have hlocks := B.notSynchronized
  subst hsz
  have hD : ∀ a, S a ≠ none → dm S s.heap.size a := fun a h => Or.inl h
  have hA : ∀ q : Nat, s.heap.size ≤ q → dm S s.heap.size q := fun q h => Or.inr h
  have hS : va_S (dm S s.heap.size) s.heap s.heap [] := va_S.rf
  have hl := lv_entry [.ref a0, .int a1] (n := 7) (Nat.le_of_ble_eq_true rfl)
  rw [lg_entry_eq]
  generalize (lg_sl [.ref a0, .int a1] ++ List.replicate (7 - (lg_sl [.ref a0, .int a1]).length) Slot.unset).toArray = ls at hl ⊢
  have hl : lv_has ls 7 [(0, .ref a0), (1, .int a1)] := hl
  rw [f_X7_mateFor] at h
  refine lv_iconst (v := (-1)) hx hb dX7_mateFor_0 (by decide) ?_
  refine lv_istore_n (lv' := [(2, .int (-1)), (0, .ref a0), (1, .int a1)]) hx hb dX7_mateFor_1 rfl hl (by decide) rfl (fun ls hl => ?_)
  refine lv_iconst (v := 0) hx hb dX7_mateFor_2 (by decide) ?_
  refine lv_istore_n (lv' := [(3, .int 0), (2, .int (-1)), (0, .ref a0), (1, .int a1)]) hx hb dX7_mateFor_3 rfl hl (by decide) rfl (fun ls hl => ?_)
  refine lv_iconst (v := 0) hx hb dX7_mateFor_4 (by decide) ?_
  refine lv_istore (lv' := [(4, .int 0), (3, .int 0), (2, .int (-1)), (0, .ref a0), (1, .int a1)]) hx hb dX7_mateFor_5 hl (by decide) rfl (fun ls hl => ?_)
  have L7 : ∀ (y7_0 : Nat) (y7_1 : Int32) (fu : Nat) (S7_ : St) (y7_2 : Int32) (y7_3 : Int32) (y7_4 : Int32) (res : Int32 × St), f_X7_mateFor_L7 y7_0 y7_1 fu S7_ y7_2 y7_3 y7_4 = some res → ∀ (H : Heap) (locs : List Loc) (ls : Array Slot), SP D cy S7_ H → (∀ a, S7_ a ≠ none → (dm S s.heap.size) a) → va_S (dm S s.heap.size) s.heap H locs → lv_has ls 7 [(0, .ref y7_0), (1, .int y7_1), (2, .int y7_2), (3, .int y7_3), (4, .int y7_4)] → (∀ (H : Heap) (locs : List Loc) (ls : Array Slot), SP D cy res.2 H → (∀ a, res.2 a ≠ none → (dm S s.heap.size) a) → va_S (dm S s.heap.size) s.heap H locs → lv_has ls 7 [(2, .int res.1)] → W p l e rm_X7_mateFor s m ([.ref a0, .int a1] : List Value).toArray below meth c H locs 0 0 (MQ below (va_Qi (fun r' (_ : Unit) => r' = r) (fun _ t => PoS D cy S1 (dm S s.heap.size) t) (dm S s.heap.size)) ([.ref a0, .int a1] : List Value).toArray s 0 0 (dm S s.heap.size)) (F0 m 95 ls [])) → W p l e rm_X7_mateFor s m ([.ref a0, .int a1] : List Value).toArray below meth c H locs 0 0 (MQ below (va_Qi (fun r' (_ : Unit) => r' = r) (fun _ t => PoS D cy S1 (dm S s.heap.size) t) (dm S s.heap.size)) ([.ref a0, .int a1] : List Value).toArray s 0 0 (dm S s.heap.size)) (F0 m 7 ls []) := by
    intro y7_0 y7_1 fu
    induction fu with
    | zero =>
      intro S7_ y7_2 y7_3 y7_4 res h
      rw [f_X7_mateFor_L7] at h
      cases h
    | succ fu ih =>
      intro S7_ y7_2 y7_3 y7_4 res h H locs ls hP hD hS hl hexit
      rw [f_X7_mateFor_L7] at h
      refine lv_iload hx hb dX7_mateFor_7 (lv_at hl 4 rfl) ?_
      refine lv_aload_n hx hb dX7_mateFor_9 rfl (lv_at hl 0 rfl) ?_
      replace h := bd h
      obtain ⟨x3, q4, h⟩ := h
      refine fg_6_0 hx hb hts hown hK hP wd_887 q4 dX7_mateFor_10 ?_
      refine lv_iconst (v := 2) hx hb dX7_mateFor_13 (by decide) ?_
      replace h := bd h
      obtain ⟨x5, q6, h⟩ := h
      refine r_aI hx hb hK hP q6 dX7_mateFor_14 ?_
      refine lv_icmp_ge (tgt := 95) hx hb dX7_mateFor_15 (by decide) (fun c7 => ?_) (fun c7 => ?_)
      · replace h := ifp c7 h
        cases h
        exact hexit _ _ _ hP hD hS (lv_sub hl [2] rfl)
      · replace h := ifn c7 h
        refine lv_aload_n hx hb dX7_mateFor_18 rfl (lv_at hl 0 rfl) ?_
        refine lv_iload_n hx hb dX7_mateFor_19 rfl (lv_at hl 1 rfl) ?_
        refine lv_iload hx hb dX7_mateFor_20 (lv_at hl 4 rfl) ?_
        replace h := bd h
        obtain ⟨_, q8, h⟩ := h
        replace h := bd h
        obtain ⟨x10, q9, h⟩ := h
        refine c_X7_canJoin ⟨hx, hb, hml, hown, hts⟩ hl.1 hK hP hS wd_1068 ⟨(Nat.le_of_ble_eq_true rfl), (Nat.le_of_ble_eq_true rfl)⟩ q9 q8 (Nat.le_of_ble_eq_true rfl) dX7_mateFor_22 ⟨(Nat.le_of_ble_eq_true rfl), (Nat.le_of_ble_eq_true rfl)⟩ (fun H locs hP hS => ?_)
        replace h := bd h
        obtain ⟨t11, ht, h⟩ := h
        have K11 : ∀ (H : Heap) (locs : List Loc) (ls : Array Slot), SP D cy t11.2.2 H → (∀ a, t11.2.2 a ≠ none → (dm S s.heap.size) a) → va_S (dm S s.heap.size) s.heap H locs → lv_has ls 7 [(0, .ref y7_0), (1, .int y7_1), (2, .int t11.1), (3, .int t11.2.1), (4, .int y7_4)] → W p l e rm_X7_mateFor s m ([.ref a0, .int a1] : List Value).toArray below meth c H locs 0 0 (MQ below (va_Qi (fun r' (_ : Unit) => r' = r) (fun _ t => PoS D cy S1 (dm S s.heap.size) t) (dm S s.heap.size)) ([.ref a0, .int a1] : List Value).toArray s 0 0 (dm S s.heap.size)) (F0 m 89 ls []) := by
          intro H locs ls hP hD hS hl
          refine lv_iinc (v := (y7_4 + 1)) (lv' := [(4, .int (y7_4 + 1)), (0, .ref y7_0), (1, .int y7_1), (2, .int t11.1), (3, .int t11.2.1)]) hx hb dX7_mateFor_89 hl (k := 4) rfl rfl (by decide) rfl (fun ls hl => ?_)
          refine lv_goto (tgt := 7) hx hb dX7_mateFor_92 (by decide) ?_
          exact ih t11.2.2 t11.1 t11.2.1 (y7_4 + 1) _ h _ _ _ hP hD hS (lv_sub hl [1, 2, 3, 4, 0] rfl) hexit
        replace h := ht
        refine lv_if_eq (tgt := 89) hx hb dX7_mateFor_25 (by decide) (fun c12 => ?_) (fun c12 => ?_)
        · replace h := ifp c12 h
          cases h
          exact K11 _ _ _ hP hD hS (lv_sub hl [0, 1, 2, 3, 4] rfl)
        · replace h := ifn c12 h
          refine lv_aload_n hx hb dX7_mateFor_28 rfl (lv_at hl 0 rfl) ?_
          refine lv_iload_n hx hb dX7_mateFor_29 rfl (lv_at hl 1 rfl) ?_
          refine lv_iload hx hb dX7_mateFor_30 (lv_at hl 4 rfl) ?_
          replace h := bd h
          obtain ⟨_, q13, h⟩ := h
          replace h := bd h
          obtain ⟨z15, q14, h⟩ := h
          refine c_X7_layBoth ⟨hx, hb, hml, hown, hts⟩ hl.1 hK hP hD hA hS wd_1072 ⟨(Nat.le_of_ble_eq_true rfl), (Nat.le_of_ble_eq_true rfl)⟩ q14 q13 (Nat.le_of_ble_eq_true rfl) dX7_mateFor_32 ⟨(Nat.le_of_ble_eq_true rfl), (Nat.le_of_ble_eq_true rfl)⟩ (fun H locs hP hD hS => ?_)
          refine lv_aload_n hx hb dX7_mateFor_35 rfl (lv_at hl 0 rfl) ?_
          refine lv_aload_n hx hb dX7_mateFor_36 rfl (lv_at hl 0 rfl) ?_
          refine lv_iload_n hx hb dX7_mateFor_37 rfl (lv_at hl 1 rfl) ?_
          refine lv_iconst (v := 1) hx hb dX7_mateFor_38 (by decide) ?_
          replace h := bd h
          obtain ⟨_, q16, h⟩ := h
          replace h := bd h
          obtain ⟨x18, q17, h⟩ := h
          refine c_X7_of ⟨hx, hb, hml, hown, hts⟩ hl.1 hK hP hS wd_961 ⟨(Nat.le_of_ble_eq_true rfl), (Nat.le_of_ble_eq_true rfl)⟩ q17 q16 (Nat.le_of_ble_eq_true rfl) dX7_mateFor_39 ⟨(Nat.le_of_ble_eq_true rfl), (Nat.le_of_ble_eq_true rfl)⟩ (fun H locs hP hS => ?_)
          replace h := bd h
          obtain ⟨_, q19, h⟩ := h
          replace h := bd h
          obtain ⟨x21, q20, h⟩ := h
          refine c_X7_costBy ⟨hx, hb, hml, hown, hts⟩ hl.1 hK hP hS wd_969 ⟨(Nat.le_of_ble_eq_true rfl), (Nat.le_of_ble_eq_true rfl)⟩ q20 q19 (Nat.le_of_ble_eq_true rfl) dX7_mateFor_42 ⟨(Nat.le_of_ble_eq_true rfl), (Nat.le_of_ble_eq_true rfl)⟩ (fun H locs hP hS => ?_)
          refine lv_istore (lv' := [(5, .int x21), (0, .ref y7_0), (1, .int y7_1), (2, .int y7_2), (3, .int y7_3), (4, .int y7_4)]) hx hb dX7_mateFor_45 hl (by decide) rfl (fun ls hl => ?_)
          refine lv_iload_n hx hb dX7_mateFor_47 rfl (lv_at hl 3 rfl) ?_
          refine lv_iconst (v := (-1)) hx hb dX7_mateFor_48 (by decide) ?_
          replace h := bd h
          obtain ⟨t22, ht, h⟩ := h
          have K22 : ∀ (H : Heap) (locs : List Loc) (ls : Array Slot), SP D cy z15 H → (∀ a, z15 a ≠ none → (dm S s.heap.size) a) → va_S (dm S s.heap.size) s.heap H locs → lv_has ls 7 [(0, .ref y7_0), (1, .int y7_1), (2, .int y7_2), (3, .int y7_3), (4, .int y7_4), (5, .int x21)] → W p l e rm_X7_mateFor s m ([.ref a0, .int a1] : List Value).toArray below meth c H locs 0 0 (MQ below (va_Qi (fun r' (_ : Unit) => r' = r) (fun _ t => PoS D cy S1 (dm S s.heap.size) t) (dm S s.heap.size)) ([.ref a0, .int a1] : List Value).toArray s 0 0 (dm S s.heap.size)) (F0 m 63 ls [.int t22]) := by
            intro H locs ls hP hD hS hl
            refine lv_istore (lv' := [(6, .int t22), (0, .ref y7_0), (1, .int y7_1), (2, .int y7_2), (3, .int y7_3), (4, .int y7_4), (5, .int x21)]) hx hb dX7_mateFor_63 hl (by decide) rfl (fun ls hl => ?_)
            refine lv_iload hx hb dX7_mateFor_65 (lv_at hl 0 rfl) ?_
            replace h := bd h
            obtain ⟨t25, ht, h⟩ := h
            have K25 : ∀ (H : Heap) (locs : List Loc) (ls : Array Slot), SP D cy z15 H → (∀ a, z15 a ≠ none → (dm S s.heap.size) a) → va_S (dm S s.heap.size) s.heap H locs → lv_has ls 7 [(0, .ref y7_0), (1, .int y7_1), (3, .int y7_3), (4, .int y7_4), (5, .int x21), (6, .int t22)] → W p l e rm_X7_mateFor s m ([.ref a0, .int a1] : List Value).toArray below meth c H locs 0 0 (MQ below (va_Qi (fun r' (_ : Unit) => r' = r) (fun _ t => PoS D cy S1 (dm S s.heap.size) t) (dm S s.heap.size)) ([.ref a0, .int a1] : List Value).toArray s 0 0 (dm S s.heap.size)) (F0 m 76 ls [.int t25]) := by
              intro H locs ls hP hD hS hl
              refine lv_istore_n (lv' := [(2, .int t25), (0, .ref y7_0), (1, .int y7_1), (3, .int y7_3), (4, .int y7_4), (5, .int x21), (6, .int t22)]) hx hb dX7_mateFor_76 rfl hl (by decide) rfl (fun ls hl => ?_)
              refine lv_iload hx hb dX7_mateFor_77 (lv_at hl 6 rfl) ?_
              replace h := bd h
              obtain ⟨t27, ht, h⟩ := h
              have K27 : ∀ (H : Heap) (locs : List Loc) (ls : Array Slot), SP D cy z15 H → (∀ a, z15 a ≠ none → (dm S s.heap.size) a) → va_S (dm S s.heap.size) s.heap H locs → lv_has ls 7 [(0, .ref y7_0), (1, .int y7_1), (2, .int t25), (4, .int y7_4)] → W p l e rm_X7_mateFor s m ([.ref a0, .int a1] : List Value).toArray below meth c H locs 0 0 (MQ below (va_Qi (fun r' (_ : Unit) => r' = r) (fun _ t => PoS D cy S1 (dm S s.heap.size) t) (dm S s.heap.size)) ([.ref a0, .int a1] : List Value).toArray s 0 0 (dm S s.heap.size)) (F0 m 88 ls [.int t27]) := by
                intro H locs ls hP hD hS hl
                refine lv_istore_n (lv' := [(3, .int t27), (0, .ref y7_0), (1, .int y7_1), (2, .int t25), (4, .int y7_4)]) hx hb dX7_mateFor_88 rfl hl (by decide) rfl (fun ls hl => ?_)
                cases h
                exact K11 _ _ _ hP hD hS (lv_sub hl [1, 2, 3, 0, 4] rfl)
              replace h := ht
              refine lv_if_eq (tgt := 87) hx hb dX7_mateFor_79 (by decide) (fun c28 => ?_) (fun c28 => ?_)
              · replace h := ifp c28 h
                refine lv_iload_n hx hb dX7_mateFor_87 rfl (lv_at hl 3 rfl) ?_
                cases h
                exact K27 _ _ _ hP hD hS (lv_sub hl [1, 2, 0, 4] rfl)
              · replace h := ifn c28 h
                refine lv_iload hx hb dX7_mateFor_82 (lv_at hl 5 rfl) ?_
                refine lv_goto (tgt := 88) hx hb dX7_mateFor_84 (by decide) ?_
                cases h
                exact K27 _ _ _ hP hD hS (lv_sub hl [1, 2, 0, 4] rfl)
            replace h := ht
            refine lv_if_eq (tgt := 75) hx hb dX7_mateFor_67 (by decide) (fun c26 => ?_) (fun c26 => ?_)
            · replace h := ifp c26 h
              refine lv_iload_n hx hb dX7_mateFor_75 rfl (lv_at hl 3 rfl) ?_
              cases h
              exact K25 _ _ _ hP hD hS (lv_sub hl [1, 2, 4, 5, 6, 0] rfl)
            · replace h := ifn c26 h
              refine lv_iload hx hb dX7_mateFor_70 (lv_at hl 5 rfl) ?_
              refine lv_goto (tgt := 76) hx hb dX7_mateFor_72 (by decide) ?_
              cases h
              exact K25 _ _ _ hP hD hS (lv_sub hl [1, 2, 4, 5, 6, 0] rfl)
          replace h := ht
          refine lv_icmp_eq (tgt := 58) hx hb dX7_mateFor_49 (by decide) (fun c23 => ?_) (fun c23 => ?_)
          · replace h := ifp c23 h
            refine lv_iconst (v := 1) hx hb dX7_mateFor_58 (by decide) ?_
            refine lv_goto (tgt := 63) hx hb dX7_mateFor_59 (by decide) ?_
            cases h
            exact K22 _ _ _ hP hD hS (lv_sub hl [1, 2, 3, 4, 5, 0] rfl)
          · replace h := ifn c23 h
            refine lv_iload hx hb dX7_mateFor_52 (lv_at hl 0 rfl) ?_
            refine lv_iload_n hx hb dX7_mateFor_54 rfl (lv_at hl 4 rfl) ?_
            refine lv_icmp_ge (tgt := 62) hx hb dX7_mateFor_55 (by decide) (fun c24 => ?_) (fun c24 => ?_)
            · replace h := ifp c24 h
              refine lv_iconst (v := 0) hx hb dX7_mateFor_62 (by decide) ?_
              cases h
              exact K22 _ _ _ hP hD hS (lv_sub hl [1, 2, 3, 4, 5, 0] rfl)
            · replace h := ifn c24 h
              refine lv_iconst (v := 1) hx hb dX7_mateFor_58 (by decide) ?_
              refine lv_goto (tgt := 63) hx hb dX7_mateFor_59 (by decide) ?_
              cases h
              exact K22 _ _ _ hP hD hS (lv_sub hl [1, 2, 3, 4, 5, 0] rfl)
  replace h := bd h
  obtain ⟨z1, q29, h⟩ := h
  refine L7 a0 a1 FU S (-1) 0 0 z1 q29 _ _ _ hP hD hS (lv_sub hl [3, 4, 2, 1, 0] rfl) (fun H locs ls hP hD hS hl => ?_)
  refine lv_iload_n hx hb dX7_mateFor_95 rfl (lv_at hl 0 rfl) ?_
  cases h
  exact e_im hx hb hlocks hr hP hD hS (Nat.le_of_ble_eq_true rfl) (Nat.le_of_ble_eq_true rfl) dX7_mateFor_96
set_option maxRecDepth 100000 in
theorem c_X7_mateFor {p : Program} {l : Launch} {e : Env} {R : Room} {s : State} {m : MethodId} {args : Array Value} {below : List Frame} {meth : Method} {c : Code} {H : Heap} {locs : List Loc} {cells slots : Nat} {Q : State → Prop} {cc : ByteArray} {pc index nL : Nat} {ls : Array Slot} {rest : List Value} {D : va_G} {cy : Nat → ClassId} {A0 : Nat → Prop} {S : St} {H0 : Heap} {own : String} {u : Unit} {a0 : Nat} {a1 : Int32} {r : Int32} {S1 : St}  (hF : CallFix p m c cc nL s args ALLW own) (hsz : ls.size = nL) (hK : va_K D vwCl (tyL cy) s) (hP : SP D cy S H) (hD : ∀ a, S a ≠ none → A0 a) (hA : ∀ q, H0.size ≤ q → A0 q) (hS : va_S A0 H0 H locs) (hk : Cond.methodLink own index yX7_mateFor ∈ ALLW) (hR : rm_X7_mateFor.frames + 1 ≤ R.frames ∧ 8 + (7 + 11) + rm_X7_mateFor.locals ≤ R.locals) (h : f_X7_mateFor S a0 a1 = some (r, S1)) (hc : oO S a0 6 = some u) (hW : (rest.map fun v => v.category).sum ≤ 8) (hdg : decode cc pc = .ok (.invokevirtual index, 3)) (hf : cells + 0 ≤ R.cells ∧ slots + 0 ≤ R.slots)
    (kk : ∀ (H1 : Heap) (locs1 : List Loc), SP D cy S1 H1 → (∀ a, S1 a ≠ none → A0 a) → va_S A0 H0 H1 locs1 → W p l e R s m args below meth c H1 locs1 (cells + 0) (slots + 0) Q (F0 m (pc + 3) ls (.int r :: rest))) : W p l e R s m args below meth c H locs cells slots Q (F0 m pc ls (.int a1 :: .ref a0 :: rest)) := by
  exact k_iVm (As := [.int a1]) hF hsz (m_X7_mateFor l D cy H.size S a0 a1 r S1 h) (cwV_of (n := 1) hF.2.2.2.2 hk wd_1235 wd_64 wd_75 wd_1236 rfl rfl (by decide +kernel) hR) rfl hK hP hD hA hS (ci := 6) hc rfl hW rfl hdg hf kk
/-- VowBlocksModel.mate(I)I -/
def f_X7_mate (S : St) (a0 : Nat) (a1 : Int32) : Option (Int32 × St) :=
  (oO S a0 6).bind fun _ =>
  (f_X7_isBlock S a0 a1).bind fun x3 =>
  (
    if x3 = 0 then
      some 1
    else
      some 0
  : Option (Int32)).bind fun t4 =>
  (pI S a0 6 5 t4).bind fun Z6 =>
  (gI Z6 a0 6 5).bind fun x8 =>
  (
    if x8 ≤ 0 then
      (oO Z6 a0 6).bind fun _ =>
      (f_X7_mateFor Z6 a0 a1).bind fun z14 =>
      some (z14.1, z14.2)
    else
      some (0, Z6)
  : Option (Int32 × St)).bind fun t10 =>
  some (t10.1, t10.2)
abbrev rm_X7_mate : Room := { frames := 5, cells := 0, slots := 0, locals := 113 }
set_option maxHeartbeats 4000000 in
set_option maxRecDepth 100000 in
theorem m_X7_mate (l : Launch) (D : va_G) (cy : Nat → ClassId) (sz : Nat) (S : St) (a0 : Nat) (a1 : Int32) (r : Int32) (S1 : St) (h : f_X7_mate S a0 a1 = some (r, S1)) : Met l yX7_mate (wsA yX7_mate cX7_mate 2 (some .int)) rm_X7_mate (va_Pc [.ref a0, .int a1] (PN D cy S sz)) (va_Qi (fun r' (_ : Unit) => r' = r) (fun _ t => PoS D cy S1 (dm S sz) t) (dm S sz)) 0 0 (dm S sz) := by
  refine Met.ofW (cc := cX7_mate) (maxL := 2) (ret := (some .int)) (by decide) rfl ?_
  intro p e s m args below meth c s₁ B hml hv
  obtain ⟨rfl, hsz, hP, hK⟩ := hv
  have hx := B.exec
  have hb := B.bytes
  have hr := B.returns
  have hts9 := atoms_spec (ws := wsA yX7_mate cX7_mate 2 (some .int)) B.pre
  have hts : ∀ w ∈ ALLW, w.before _ s = true := fun w h => hts9 w (List.mem_cons_of_mem _ h)
  have hown : s.vm.findClass RX7 = some m.cls := findClass_of_methodNamed B.named
  have hlocks := B.notSynchronized
  subst hsz
  have hD : ∀ a, S a ≠ none → dm S s.heap.size a := fun a h => Or.inl h
  have hA : ∀ q : Nat, s.heap.size ≤ q → dm S s.heap.size q := fun q h => Or.inr h
  have hS : va_S (dm S s.heap.size) s.heap s.heap [] := va_S.rf
  have hl := lv_entry [.ref a0, .int a1] (n := 2) (Nat.le_of_ble_eq_true rfl)
  rw [lg_entry_eq]
  generalize (lg_sl [.ref a0, .int a1] ++ List.replicate (2 - (lg_sl [.ref a0, .int a1]).length) Slot.unset).toArray = ls at hl ⊢
  have hl : lv_has ls 2 [(0, .ref a0), (1, .int a1)] := hl
  rw [f_X7_mate] at h
  refine lv_aload_n hx hb dX7_mate_0 rfl (lv_at hl 0 rfl) ?_
  refine lv_aload_n hx hb dX7_mate_1 rfl (lv_at hl 0 rfl) ?_
  refine lv_iload_n hx hb dX7_mate_2 rfl (lv_at hl 1 rfl) ?_
  replace h := bd h
  obtain ⟨_, q1, h⟩ := h
  replace h := bd h
  obtain ⟨x3, q2, h⟩ := h
  refine c_X7_isBlock ⟨hx, hb, hml, hown, hts⟩ hl.1 hK hP hS wd_1044 ⟨(Nat.le_of_ble_eq_true rfl), (Nat.le_of_ble_eq_true rfl)⟩ q2 q1 (Nat.le_of_ble_eq_true rfl) dX7_mate_3 ⟨(Nat.le_of_ble_eq_true rfl), (Nat.le_of_ble_eq_true rfl)⟩ (fun H locs hP hS => ?_)
  replace h := bd h
  obtain ⟨t4, ht, h⟩ := h
  have K4 : ∀ (H : Heap) (locs : List Loc) (ls : Array Slot), SP D cy S H → (∀ a, S a ≠ none → (dm S s.heap.size) a) → va_S (dm S s.heap.size) s.heap H locs → lv_has ls 2 [(0, .ref a0), (1, .int a1)] → W p l e rm_X7_mate s m ([.ref a0, .int a1] : List Value).toArray below meth c H locs 0 0 (MQ below (va_Qi (fun r' (_ : Unit) => r' = r) (fun _ t => PoS D cy S1 (dm S s.heap.size) t) (dm S s.heap.size)) ([.ref a0, .int a1] : List Value).toArray s 0 0 (dm S s.heap.size)) (F0 m 14 ls [.int t4, .ref a0]) := by
    intro H locs ls hP hD hS hl
    replace h := bd h
    obtain ⟨Z6, q7, h⟩ := h
    refine fp_6_5 hx hb hts hown hK hP hD hS wd_892 q7 dX7_mate_14 (fun H locs hz9 hP hD hS => ?_)
    refine lv_aload_n hx hb dX7_mate_17 rfl (lv_at hl 0 rfl) ?_
    replace h := bd h
    obtain ⟨x8, q9, h⟩ := h
    refine fg_6_5 hx hb hts hown hK hP wd_892 q9 dX7_mate_18 ?_
    replace h := bd h
    obtain ⟨t10, ht, h⟩ := h
    have K10 : ∀ (H : Heap) (locs : List Loc) (ls : Array Slot), SP D cy t10.2 H → (∀ a, t10.2 a ≠ none → (dm S s.heap.size) a) → va_S (dm S s.heap.size) s.heap H locs → lv_has ls 2 [] → W p l e rm_X7_mate s m ([.ref a0, .int a1] : List Value).toArray below meth c H locs 0 0 (MQ below (va_Qi (fun r' (_ : Unit) => r' = r) (fun _ t => PoS D cy S1 (dm S s.heap.size) t) (dm S s.heap.size)) ([.ref a0, .int a1] : List Value).toArray s 0 0 (dm S s.heap.size)) (F0 m 33 ls [.int t10.1]) := by
      intro H locs ls hP hD hS hl
      cases h
      exact e_im hx hb hlocks hr hP hD hS (Nat.le_of_ble_eq_true rfl) (Nat.le_of_ble_eq_true rfl) dX7_mate_33
    replace h := ht
    refine lv_if_le (tgt := 28) hx hb dX7_mate_21 (by decide) (fun c11 => ?_) (fun c11 => ?_)
    · replace h := ifp c11 h
      refine lv_aload_n hx hb dX7_mate_28 rfl (lv_at hl 0 rfl) ?_
      refine lv_iload_n hx hb dX7_mate_29 rfl (lv_at hl 1 rfl) ?_
      replace h := bd h
      obtain ⟨_, q12, h⟩ := h
      replace h := bd h
      obtain ⟨z14, q13, h⟩ := h
      refine c_X7_mateFor ⟨hx, hb, hml, hown, hts⟩ hl.1 hK hP hD hA hS wd_1233 ⟨(Nat.le_of_ble_eq_true rfl), (Nat.le_of_ble_eq_true rfl)⟩ q13 q12 (Nat.le_of_ble_eq_true rfl) dX7_mate_30 ⟨(Nat.le_of_ble_eq_true rfl), (Nat.le_of_ble_eq_true rfl)⟩ (fun H locs hP hD hS => ?_)
      cases h
      exact K10 _ _ _ hP hD hS (lv_sub hl [] rfl)
    · replace h := ifn c11 h
      refine lv_iconst (v := 0) hx hb dX7_mate_24 (by decide) ?_
      refine lv_goto (tgt := 33) hx hb dX7_mate_25 (by decide) ?_
      cases h
      exact K10 _ _ _ hP hD hS (lv_sub hl [] rfl)
  replace h := ht
  refine lv_if_eq (tgt := 13) hx hb dX7_mate_6 (by decide) (fun c5 => ?_) (fun c5 => ?_)
  · replace h := ifp c5 h
    refine lv_iconst (v := 1) hx hb dX7_mate_13 (by decide) ?_
    cases h
    exact K4 _ _ _ hP hD hS (lv_sub hl [0, 1] rfl)
  · replace h := ifn c5 h
    refine lv_iconst (v := 0) hx hb dX7_mate_9 (by decide) ?_
    refine lv_goto (tgt := 14) hx hb dX7_mate_10 (by decide) ?_
    cases h
    exact K4 _ _ _ hP hD hS (lv_sub hl [0, 1] rfl)
set_option maxRecDepth 100000 in
theorem c_X7_mate {p : Program} {l : Launch} {e : Env} {R : Room} {s : State} {m : MethodId} {args : Array Value} {below : List Frame} {meth : Method} {c : Code} {H : Heap} {locs : List Loc} {cells slots : Nat} {Q : State → Prop} {cc : ByteArray} {pc index nL : Nat} {ls : Array Slot} {rest : List Value} {D : va_G} {cy : Nat → ClassId} {A0 : Nat → Prop} {S : St} {H0 : Heap} {own : String} {u : Unit} {a0 : Nat} {a1 : Int32} {r : Int32} {S1 : St}  (hF : CallFix p m c cc nL s args ALLW own) (hsz : ls.size = nL) (hK : va_K D vwCl (tyL cy) s) (hP : SP D cy S H) (hD : ∀ a, S a ≠ none → A0 a) (hA : ∀ q, H0.size ≤ q → A0 q) (hS : va_S A0 H0 H locs) (hk : Cond.methodLink own index yX7_mate ∈ ALLW) (hR : rm_X7_mate.frames + 1 ≤ R.frames ∧ 8 + (2 + 11) + rm_X7_mate.locals ≤ R.locals) (h : f_X7_mate S a0 a1 = some (r, S1)) (hc : oO S a0 6 = some u) (hW : (rest.map fun v => v.category).sum ≤ 8) (hdg : decode cc pc = .ok (.invokevirtual index, 3)) (hf : cells + 0 ≤ R.cells ∧ slots + 0 ≤ R.slots)
    (kk : ∀ (H1 : Heap) (locs1 : List Loc), SP D cy S1 H1 → (∀ a, S1 a ≠ none → A0 a) → va_S A0 H0 H1 locs1 → W p l e R s m args below meth c H1 locs1 (cells + 0) (slots + 0) Q (F0 m (pc + 3) ls (.int r :: rest))) : W p l e R s m args below meth c H locs cells slots Q (F0 m pc ls (.int a1 :: .ref a0 :: rest)) := by
  exact k_iVm (As := [.int a1]) hF hsz (m_X7_mate l D cy H.size S a0 a1 r S1 h) (cwV_of (n := 1) hF.2.2.2.2 hk wd_1230 wd_1231 wd_75 wd_1232 rfl rfl (by decide +kernel) hR) rfl hK hP hD hA hS (ci := 6) hc rfl hW rfl hdg hf kk
/-- VowBlocksModel.mean()D -/
def f_X7_mean (S : St) (a0 : Nat) : Option (UInt64 × St) :=
  (oO S a0 6).bind fun _ =>
  (f_X7_sumOf S a0 0).bind fun z3 =>
  (
    if z3.1 = 0 then
      some (FP.dconst0, z3.2)
    else
      (oO z3.2 a0 6).bind fun _ =>
      (f_X7_sumOf z3.2 a0 2).bind fun z8 =>
      (nn (FP.ddiv (FP.i2d z8.1) (FP.i2d z3.1))).bind fun _ =>
      some ((FP.ddiv (FP.i2d z8.1) (FP.i2d z3.1)), z8.2)
  : Option (UInt64 × St)).bind fun t4 =>
  some (t4.1, t4.2)
abbrev rm_X7_mean : Room := { frames := 7, cells := 0, slots := 0, locals := 155 }
set_option maxHeartbeats 4000000 in
set_option maxRecDepth 100000 in
theorem m_X7_mean (l : Launch) (D : va_G) (cy : Nat → ClassId) (sz : Nat) (S : St) (a0 : Nat) (r : UInt64) (S1 : St) (h : f_X7_mean S a0 = some (r, S1)) : Met l yX7_mean (wsA yX7_mean cX7_mean 2 (some .double)) rm_X7_mean (va_Pc [.ref a0] (PN D cy S sz)) (va_Qd (fun r' (_ : Unit) => r' = r) (fun _ t => PoS D cy S1 (dm S sz) t) (dm S sz)) 0 0 (dm S sz) := by
  refine Met.ofW (cc := cX7_mean) (maxL := 2) (ret := (some .double)) (by decide) rfl ?_
  intro p e s m args below meth c s₁ B hml hv
  obtain ⟨rfl, hsz, hP, hK⟩ := hv
  have hx := B.exec
  have hb := B.bytes
  have hr := B.returns
  have hts9 := atoms_spec (ws := wsA yX7_mean cX7_mean 2 (some .double)) B.pre
  have hts : ∀ w ∈ ALLW, w.before _ s = true := fun w h => hts9 w (List.mem_cons_of_mem _ h)
  have hown : s.vm.findClass RX7 = some m.cls := findClass_of_methodNamed B.named
  have hlocks := B.notSynchronized
  subst hsz
  have hD : ∀ a, S a ≠ none → dm S s.heap.size a := fun a h => Or.inl h
  have hA : ∀ q : Nat, s.heap.size ≤ q → dm S s.heap.size q := fun q h => Or.inr h
  have hS : va_S (dm S s.heap.size) s.heap s.heap [] := va_S.rf
  have hl := lv_entry [.ref a0] (n := 2) (Nat.le_of_ble_eq_true rfl)
  rw [lg_entry_eq]
  generalize (lg_sl [.ref a0] ++ List.replicate (2 - (lg_sl [.ref a0]).length) Slot.unset).toArray = ls at hl ⊢
  have hl : lv_has ls 2 [(0, .ref a0)] := hl
  rw [f_X7_mean] at h
  refine lv_aload_n hx hb dX7_mean_0 rfl (lv_at hl 0 rfl) ?_
  refine lv_iconst (v := 0) hx hb dX7_mean_1 (by decide) ?_
  replace h := bd h
  obtain ⟨_, q1, h⟩ := h
  replace h := bd h
  obtain ⟨z3, q2, h⟩ := h
  refine c_X7_sumOf ⟨hx, hb, hml, hown, hts⟩ hl.1 hK hP hD hA hS wd_1174 ⟨(Nat.le_of_ble_eq_true rfl), (Nat.le_of_ble_eq_true rfl)⟩ q2 q1 (Nat.le_of_ble_eq_true rfl) dX7_mean_2 ⟨(Nat.le_of_ble_eq_true rfl), (Nat.le_of_ble_eq_true rfl)⟩ (fun H locs hP hD hS => ?_)
  refine lv_istore_n (lv' := [(1, .int z3.1), (0, .ref a0)]) hx hb dX7_mean_5 rfl hl (by decide) rfl (fun ls hl => ?_)
  refine lv_iload_n hx hb dX7_mean_6 rfl (lv_at hl 0 rfl) ?_
  replace h := bd h
  obtain ⟨t4, ht, h⟩ := h
  have K4 : ∀ (H : Heap) (locs : List Loc) (ls : Array Slot), SP D cy t4.2 H → (∀ a, t4.2 a ≠ none → (dm S s.heap.size) a) → va_S (dm S s.heap.size) s.heap H locs → lv_has ls 2 [] → W p l e rm_X7_mean s m ([.ref a0] : List Value).toArray below meth c H locs 0 0 (MQ below (va_Qd (fun r' (_ : Unit) => r' = r) (fun _ t => PoS D cy S1 (dm S s.heap.size) t) (dm S s.heap.size)) ([.ref a0] : List Value).toArray s 0 0 (dm S s.heap.size)) (F0 m 23 ls [.double t4.1]) := by
    intro H locs ls hP hD hS hl
    cases h
    exact e_dm hx hb hlocks hr hP hD hS (Nat.le_of_ble_eq_true rfl) (Nat.le_of_ble_eq_true rfl) dX7_mean_23
  replace h := ht
  refine lv_if_ne (tgt := 14) hx hb dX7_mean_7 (by decide) (fun c5 => ?_) (fun c5 => ?_)
  · replace h := ifn c5 h
    refine lv_aload_n hx hb dX7_mean_14 rfl (lv_at hl 1 rfl) ?_
    refine lv_iconst (v := 2) hx hb dX7_mean_15 (by decide) ?_
    replace h := bd h
    obtain ⟨_, q6, h⟩ := h
    replace h := bd h
    obtain ⟨z8, q7, h⟩ := h
    refine c_X7_sumOf ⟨hx, hb, hml, hown, hts⟩ hl.1 hK hP hD hA hS wd_1174 ⟨(Nat.le_of_ble_eq_true rfl), (Nat.le_of_ble_eq_true rfl)⟩ q7 q6 (Nat.le_of_ble_eq_true rfl) dX7_mean_16 ⟨(Nat.le_of_ble_eq_true rfl), (Nat.le_of_ble_eq_true rfl)⟩ (fun H locs hP hD hS => ?_)
    refine lv_i2d hx hb dX7_mean_19 ?_
    refine lv_iload_n hx hb dX7_mean_20 rfl (lv_at hl 0 rfl) ?_
    refine lv_i2d hx hb dX7_mean_21 ?_
    replace h := bd h
    obtain ⟨_, q9, h⟩ := h
    refine lv_ddiv hx hb dX7_mean_22 (nn_spec q9) ?_
    cases h
    exact K4 _ _ _ hP hD hS (lv_sub hl [] rfl)
  · replace h := ifp c5 h
    refine lv_dconst0 hx hb dX7_mean_10 ?_
    refine lv_goto (tgt := 23) hx hb dX7_mean_11 (by decide) ?_
    cases h
    exact K4 _ _ _ hP hD hS (lv_sub hl [] rfl)
set_option maxRecDepth 100000 in
theorem c_X7_mean {p : Program} {l : Launch} {e : Env} {R : Room} {s : State} {m : MethodId} {args : Array Value} {below : List Frame} {meth : Method} {c : Code} {H : Heap} {locs : List Loc} {cells slots : Nat} {Q : State → Prop} {cc : ByteArray} {pc index nL : Nat} {ls : Array Slot} {rest : List Value} {D : va_G} {cy : Nat → ClassId} {A0 : Nat → Prop} {S : St} {H0 : Heap} {own : String} {u : Unit} {a0 : Nat} {r : UInt64} {S1 : St}  (hF : CallFix p m c cc nL s args ALLW own) (hsz : ls.size = nL) (hK : va_K D vwCl (tyL cy) s) (hP : SP D cy S H) (hD : ∀ a, S a ≠ none → A0 a) (hA : ∀ q, H0.size ≤ q → A0 q) (hS : va_S A0 H0 H locs) (hk : Cond.methodLink own index yX7_mean ∈ ALLW) (hR : rm_X7_mean.frames + 1 ≤ R.frames ∧ 8 + (2 + 11) + rm_X7_mean.locals ≤ R.locals) (h : f_X7_mean S a0 = some (r, S1)) (hc : oO S a0 6 = some u) (hW : (rest.map fun v => v.category).sum ≤ 8) (hdg : decode cc pc = .ok (.invokevirtual index, 3)) (hf : cells + 0 ≤ R.cells ∧ slots + 0 ≤ R.slots)
    (kk : ∀ (H1 : Heap) (locs1 : List Loc), SP D cy S1 H1 → (∀ a, S1 a ≠ none → A0 a) → va_S A0 H0 H1 locs1 → W p l e R s m args below meth c H1 locs1 (cells + 0) (slots + 0) Q (F0 m (pc + 3) ls (.double r :: rest))) : W p l e R s m args below meth c H locs cells slots Q (F0 m pc ls (.ref a0 :: rest)) := by
  exact k_dVm (As := []) hF hsz (m_X7_mean l D cy H.size S a0 r S1 h) (cwV_of (n := 0) hF.2.2.2.2 hk wd_1243 wd_65 wd_75 wd_1244 rfl rfl (by decide +kernel) hR) rfl hK hP hD hA hS (ci := 6) hc rfl hW rfl hdg hf kk
/-- VowBlocksModel.meanBits()D -/
def f_X7_meanBits (S : St) (a0 : Nat) : Option (UInt64 × St) :=
  (pI S a0 6 5 0).bind fun Z1 =>
  (oO Z1 a0 6).bind fun _ =>
  (f_X7_mean Z1 a0).bind fun z5 =>
  some (z5.1, z5.2)
abbrev rm_X7_meanBits : Room := { frames := 8, cells := 0, slots := 0, locals := 176 }
set_option maxHeartbeats 4000000 in
set_option maxRecDepth 100000 in
theorem m_X7_meanBits (l : Launch) (D : va_G) (cy : Nat → ClassId) (sz : Nat) (S : St) (a0 : Nat) (r : UInt64) (S1 : St) (h : f_X7_meanBits S a0 = some (r, S1)) : Met l yX7_meanBits (wsA yX7_meanBits cX7_meanBits 1 (some .double)) rm_X7_meanBits (va_Pc [.ref a0] (PN D cy S sz)) (va_Qd (fun r' (_ : Unit) => r' = r) (fun _ t => PoS D cy S1 (dm S sz) t) (dm S sz)) 0 0 (dm S sz) := by
  refine Met.ofW (cc := cX7_meanBits) (maxL := 1) (ret := (some .double)) (by decide) rfl ?_
  intro p e s m args below meth c s₁ B hml hv
  obtain ⟨rfl, hsz, hP, hK⟩ := hv
  have hx := B.exec
  have hb := B.bytes
  have hr := B.returns
  have hts9 := atoms_spec (ws := wsA yX7_meanBits cX7_meanBits 1 (some .double)) B.pre
  have hts : ∀ w ∈ ALLW, w.before _ s = true := fun w h => hts9 w (List.mem_cons_of_mem _ h)
  have hown : s.vm.findClass RX7 = some m.cls := findClass_of_methodNamed B.named
  have hlocks := B.notSynchronized
  subst hsz
  have hD : ∀ a, S a ≠ none → dm S s.heap.size a := fun a h => Or.inl h
  have hA : ∀ q : Nat, s.heap.size ≤ q → dm S s.heap.size q := fun q h => Or.inr h
  have hS : va_S (dm S s.heap.size) s.heap s.heap [] := va_S.rf
  have hl := lv_entry [.ref a0] (n := 1) (Nat.le_of_ble_eq_true rfl)
  rw [lg_entry_eq]
  generalize (lg_sl [.ref a0] ++ List.replicate (1 - (lg_sl [.ref a0]).length) Slot.unset).toArray = ls at hl ⊢
  have hl : lv_has ls 1 [(0, .ref a0)] := hl
  rw [f_X7_meanBits] at h
  refine lv_aload_n hx hb dX7_meanBits_0 rfl (lv_at hl 0 rfl) ?_
  refine lv_iconst (v := 0) hx hb dX7_meanBits_1 (by decide) ?_
  replace h := bd h
  obtain ⟨Z1, q2, h⟩ := h
  refine fp_6_5 hx hb hts hown hK hP hD hS wd_892 q2 dX7_meanBits_2 (fun H locs hz9 hP hD hS => ?_)
  refine lv_aload_n hx hb dX7_meanBits_5 rfl (lv_at hl 0 rfl) ?_
  replace h := bd h
  obtain ⟨_, q3, h⟩ := h
  replace h := bd h
  obtain ⟨z5, q4, h⟩ := h
  refine c_X7_mean ⟨hx, hb, hml, hown, hts⟩ hl.1 hK hP hD hA hS wd_1241 ⟨(Nat.le_of_ble_eq_true rfl), (Nat.le_of_ble_eq_true rfl)⟩ q4 q3 (Nat.le_of_ble_eq_true rfl) dX7_meanBits_6 ⟨(Nat.le_of_ble_eq_true rfl), (Nat.le_of_ble_eq_true rfl)⟩ (fun H locs hP hD hS => ?_)
  cases h
  exact e_dm hx hb hlocks hr hP hD hS (Nat.le_of_ble_eq_true rfl) (Nat.le_of_ble_eq_true rfl) dX7_meanBits_9
set_option maxRecDepth 100000 in
theorem c_X7_meanBits {p : Program} {l : Launch} {e : Env} {R : Room} {s : State} {m : MethodId} {args : Array Value} {below : List Frame} {meth : Method} {c : Code} {H : Heap} {locs : List Loc} {cells slots : Nat} {Q : State → Prop} {cc : ByteArray} {pc index nL : Nat} {ls : Array Slot} {rest : List Value} {D : va_G} {cy : Nat → ClassId} {A0 : Nat → Prop} {S : St} {H0 : Heap} {own : String} {u : Unit} {a0 : Nat} {r : UInt64} {S1 : St}  (hF : CallFix p m c cc nL s args ALLW own) (hsz : ls.size = nL) (hK : va_K D vwCl (tyL cy) s) (hP : SP D cy S H) (hD : ∀ a, S a ≠ none → A0 a) (hA : ∀ q, H0.size ≤ q → A0 q) (hS : va_S A0 H0 H locs) (hk : Cond.methodLink own index yX7_meanBits ∈ ALLW) (hR : rm_X7_meanBits.frames + 1 ≤ R.frames ∧ 8 + (1 + 11) + rm_X7_meanBits.locals ≤ R.locals) (h : f_X7_meanBits S a0 = some (r, S1)) (hc : oO S a0 6 = some u) (hW : (rest.map fun v => v.category).sum ≤ 8) (hdg : decode cc pc = .ok (.invokevirtual index, 3)) (hf : cells + 0 ≤ R.cells ∧ slots + 0 ≤ R.slots)
    (kk : ∀ (H1 : Heap) (locs1 : List Loc), SP D cy S1 H1 → (∀ a, S1 a ≠ none → A0 a) → va_S A0 H0 H1 locs1 → W p l e R s m args below meth c H1 locs1 (cells + 0) (slots + 0) Q (F0 m (pc + 3) ls (.double r :: rest))) : W p l e R s m args below meth c H locs cells slots Q (F0 m pc ls (.ref a0 :: rest)) := by
  exact k_dVm (As := []) hF hsz (m_X7_meanBits l D cy H.size S a0 r S1 h) (cwV_of (n := 0) hF.2.2.2.2 hk wd_1238 wd_1239 wd_75 wd_1240 rfl rfl (by decide +kernel) hR) rfl hK hP hD hA hS (ci := 6) hc rfl hW rfl hdg hf kk
/-- VowBlocksModel.mix(J)V -/
def f_X7_mix (S : St) (a0 : Nat) (a1 : Int64) : Option (St) :=
  (gL S a0 6 12).bind fun x1 =>
  (pL S a0 6 12 ((31 * x1) + a1)).bind fun Z3 =>
  some Z3
abbrev rm_X7_mix : Room := { frames := 0, cells := 0, slots := 0, locals := 0 }
set_option maxHeartbeats 4000000 in
set_option maxRecDepth 100000 in
theorem m_X7_mix (l : Launch) (D : va_G) (cy : Nat → ClassId) (sz : Nat) (S : St) (a0 : Nat) (a1 : Int64) (S1 : St) (h : f_X7_mix S a0 a1 = some S1) : Met l yX7_mix (wsA yX7_mix cX7_mix 3 none) rm_X7_mix (va_Pc [.ref a0, .long a1] (PN D cy S sz)) (va_Qv (fun _ : Unit => True) (fun _ t => PoS D cy S1 (dm S sz) t) (dm S sz)) 0 0 (dm S sz) := by
  refine Met.ofW (cc := cX7_mix) (maxL := 3) (ret := none) (by decide) rfl ?_
  intro p e s m args below meth c s₁ B hml hv
  obtain ⟨rfl, hsz, hP, hK⟩ := hv
  have hx := B.exec
  have hb := B.bytes
  have hr := B.returns
  have hts9 := atoms_spec (ws := wsA yX7_mix cX7_mix 3 none) B.pre
  have hts : ∀ w ∈ ALLW, w.before _ s = true := fun w h => hts9 w (List.mem_cons_of_mem _ h)
  have hown : s.vm.findClass RX7 = some m.cls := findClass_of_methodNamed B.named
  have hlocks := B.notSynchronized
  subst hsz
  have hD : ∀ a, S a ≠ none → dm S s.heap.size a := fun a h => Or.inl h
  have hA : ∀ q : Nat, s.heap.size ≤ q → dm S s.heap.size q := fun q h => Or.inr h
  have hS : va_S (dm S s.heap.size) s.heap s.heap [] := va_S.rf
  have hl := lv_entry [.ref a0, .long a1] (n := 3) (Nat.le_of_ble_eq_true rfl)
  rw [lg_entry_eq]
  generalize (lg_sl [.ref a0, .long a1] ++ List.replicate (3 - (lg_sl [.ref a0, .long a1]).length) Slot.unset).toArray = ls at hl ⊢
  have hl : lv_has ls 3 [(0, .ref a0), (1, .long a1)] := hl
  rw [f_X7_mix] at h
  refine lv_aload_n hx hb dX7_mix_0 rfl (lv_at hl 0 rfl) ?_
  refine lv_ldc2 hx hb hown (hts _ wd_1254) dX7_mix_1 ?_
  refine lv_aload_n hx hb dX7_mix_4 rfl (lv_at hl 0 rfl) ?_
  replace h := bd h
  obtain ⟨x1, q2, h⟩ := h
  refine fg_6_12 hx hb hts hown hK hP wd_899 q2 dX7_mix_5 ?_
  refine lv_lmul hx hb dX7_mix_8 ?_
  refine lv_lload_n hx hb dX7_mix_9 rfl (lv_at hl 1 rfl) ?_
  refine lv_ladd hx hb dX7_mix_10 ?_
  replace h := bd h
  obtain ⟨Z3, q4, h⟩ := h
  refine fp_6_12 hx hb hts hown hK hP hD hS wd_899 q4 dX7_mix_11 (fun H locs hz9 hP hD hS => ?_)
  cases h
  exact e_vm hx hb hlocks hr hP hD hS (Nat.le_of_ble_eq_true rfl) (Nat.le_of_ble_eq_true rfl) dX7_mix_14
set_option maxRecDepth 100000 in
theorem c_X7_mix {p : Program} {l : Launch} {e : Env} {R : Room} {s : State} {m : MethodId} {args : Array Value} {below : List Frame} {meth : Method} {c : Code} {H : Heap} {locs : List Loc} {cells slots : Nat} {Q : State → Prop} {cc : ByteArray} {pc index nL : Nat} {ls : Array Slot} {rest : List Value} {D : va_G} {cy : Nat → ClassId} {A0 : Nat → Prop} {S : St} {H0 : Heap} {own : String} {u : Unit} {a0 : Nat} {a1 : Int64} {S1 : St}  (hF : CallFix p m c cc nL s args ALLW own) (hsz : ls.size = nL) (hK : va_K D vwCl (tyL cy) s) (hP : SP D cy S H) (hD : ∀ a, S a ≠ none → A0 a) (hA : ∀ q, H0.size ≤ q → A0 q) (hS : va_S A0 H0 H locs) (hk : Cond.methodLink own index yX7_mix ∈ ALLW) (hR : rm_X7_mix.frames + 1 ≤ R.frames ∧ 8 + (3 + 11) + rm_X7_mix.locals ≤ R.locals) (h : f_X7_mix S a0 a1 = some S1) (hc : oO S a0 6 = some u) (hW : (rest.map fun v => v.category).sum ≤ 8) (hdg : decode cc pc = .ok (.invokevirtual index, 3)) (hf : cells + 0 ≤ R.cells ∧ slots + 0 ≤ R.slots)
    (kk : ∀ (H1 : Heap) (locs1 : List Loc), SP D cy S1 H1 → (∀ a, S1 a ≠ none → A0 a) → va_S A0 H0 H1 locs1 → W p l e R s m args below meth c H1 locs1 (cells + 0) (slots + 0) Q (F0 m (pc + 3) ls (rest))) : W p l e R s m args below meth c H locs cells slots Q (F0 m pc ls (.long a1 :: .ref a0 :: rest)) := by
  exact k_vVm (As := [.long a1]) hF hsz (m_X7_mix l D cy H.size S a0 a1 S1 h) (cwV_of (n := 1) hF.2.2.2.2 hk wd_1252 wd_66 wd_75 wd_1253 rfl rfl (by decide +kernel) hR) rfl hK hP hD hA hS (ci := 6) hc rfl hW rfl hdg hf kk
/-- VowBlocksModel.mixBlock(I)V -/
def f_X7_mixBlock_L2 (y2_0 : Nat) (y2_1 : Int32) : Nat → St → Int32 →  Option (St)
  | 0, _, _ => none
  | fu + 1, S2_, y2_2 =>
    if 12 ≤ y2_2 then
      some S2_
    else
      (oO S2_ y2_0 6).bind fun _ =>
      (f_X7_blockNow S2_ y2_0 y2_1 y2_2).bind fun z6 =>
      (oO z6.2 y2_0 6).bind fun _ =>
      (f_X7_mix z6.2 y2_0 (Int32.toInt64 z6.1)).bind fun z9 =>
      f_X7_mixBlock_L2 y2_0 y2_1 fu z9 (y2_2 + 1)
def f_X7_mixBlock_L27 (y27_0 : Nat) (y27_1 : Int32) : Nat → St → Int32 →  Option (St)
  | 0, _, _ => none
  | fu + 1, S27_, y27_2 =>
    (oO S27_ y27_0 6).bind fun _ =>
    (f_X7_of S27_ y27_0 y27_1 0).bind fun x15 =>
    if x15 ≤ y27_2 then
      some S27_
    else
      (oO S27_ y27_0 6).bind fun _ =>
      (f_X7_of S27_ y27_0 y27_1 (8 + y27_2)).bind fun x19 =>
      (oO S27_ y27_0 6).bind fun _ =>
      (f_X7_mix S27_ y27_0 (Int32.toInt64 x19)).bind fun z22 =>
      f_X7_mixBlock_L27 y27_0 y27_1 fu z22 (y27_2 + 1)
def f_X7_mixBlock_L59 (y59_0 : Nat) (y59_1 : Int32) : Nat → St → Int32 →  Option (St)
  | 0, _, _ => none
  | fu + 1, S59_, y59_2 =>
    if 6 ≤ y59_2 then
      some S59_
    else
      (oO S59_ y59_0 6).bind fun _ =>
      (f_X7_costNow S59_ y59_0 y59_1 y59_2).bind fun z29 =>
      (oO z29.2 y59_0 6).bind fun _ =>
      (f_X7_mix z29.2 y59_0 (Int32.toInt64 z29.1)).bind fun z32 =>
      f_X7_mixBlock_L59 y59_0 y59_1 fu z32 (y59_2 + 1)
def f_X7_mixBlock_L84 (y84_0 : Nat) (y84_1 : Int32) : Nat → St → Int32 →  Option (St)
  | 0, _, _ => none
  | fu + 1, S84_, y84_2 =>
    if 12 ≤ y84_2 then
      some S84_
    else
      (oO S84_ y84_0 6).bind fun _ =>
      (f_X7_workNow S84_ y84_0 y84_1 (y84_2 - y84_2 / 6 * 6) ((y84_2 / 6) * 2) 3).bind fun z39 =>
      (oO z39.2 y84_0 6).bind fun _ =>
      (f_X7_mix z39.2 y84_0 (Int32.toInt64 z39.1)).bind fun z42 =>
      f_X7_mixBlock_L84 y84_0 y84_1 fu z42 (y84_2 + 1)
def f_X7_mixBlock (S : St) (a0 : Nat) (a1 : Int32) : Option (St) :=
  (f_X7_mixBlock_L2 a0 a1 FU S 0).bind fun z1 =>
  (f_X7_mixBlock_L27 a0 a1 FU z1 0).bind fun z11 =>
  (f_X7_mixBlock_L59 a0 a1 FU z11 0).bind fun z24 =>
  (f_X7_mixBlock_L84 a0 a1 FU z24 0).bind fun z34 =>
  (oO z34 a0 6).bind fun _ =>
  (f_X7_regretThen z34 a0 a1 20).bind fun z46 =>
  (oO z46.2 a0 6).bind fun _ =>
  (f_X7_mix z46.2 a0 (Int32.toInt64 z46.1)).bind fun z49 =>
  (oO z49 a0 6).bind fun _ =>
  (f_X7_gainNow z49 a0 a1).bind fun z52 =>
  (oO z52.2 a0 6).bind fun _ =>
  (f_X7_mix z52.2 a0 (Int32.toInt64 z52.1)).bind fun z55 =>
  (oO z55 a0 6).bind fun _ =>
  (f_X7_cheapestNow z55 a0 a1 0).bind fun z58 =>
  (oO z58.2 a0 6).bind fun _ =>
  (f_X7_mix z58.2 a0 (Int32.toInt64 z58.1)).bind fun z61 =>
  (oO z61 a0 6).bind fun _ =>
  (f_X7_mateFor z61 a0 a1).bind fun z64 =>
  (oO z64.2 a0 6).bind fun _ =>
  (f_X7_mix z64.2 a0 (Int32.toInt64 z64.1)).bind fun z67 =>
  some z67
abbrev rm_X7_mixBlock : Room := { frames := 8, cells := 0, slots := 0, locals := 176 }
set_option maxHeartbeats 4000000 in
set_option maxRecDepth 100000 in
theorem m_X7_mixBlock (l : Launch) (D : va_G) (cy : Nat → ClassId) (sz : Nat) (S : St) (a0 : Nat) (a1 : Int32) (S1 : St) (h : f_X7_mixBlock S a0 a1 = some S1) : Met l yX7_mixBlock (wsA yX7_mixBlock cX7_mixBlock 3 none) rm_X7_mixBlock (va_Pc [.ref a0, .int a1] (PN D cy S sz)) (va_Qv (fun _ : Unit => True) (fun _ t => PoS D cy S1 (dm S sz) t) (dm S sz)) 0 0 (dm S sz) := by
  refine Met.ofW (cc := cX7_mixBlock) (maxL := 3) (ret := none) (by decide) rfl ?_
  intro p e s m args below meth c s₁ B hml hv
  obtain ⟨rfl, hsz, hP, hK⟩ := hv
  have hx := B.exec
  have hb := B.bytes
  have hr := B.returns
  have hts9 := atoms_spec (ws := wsA yX7_mixBlock cX7_mixBlock 3 none) B.pre
  have hts : ∀ w ∈ ALLW, w.before _ s = true := fun w h => hts9 w (List.mem_cons_of_mem _ h)
  have hown : s.vm.findClass RX7 = some m.cls := findClass_of_methodNamed B.named
  have hlocks := B.notSynchronized
  subst hsz
  have hD : ∀ a, S a ≠ none → dm S s.heap.size a := fun a h => Or.inl h
  have hA : ∀ q : Nat, s.heap.size ≤ q → dm S s.heap.size q := fun q h => Or.inr h
  have hS : va_S (dm S s.heap.size) s.heap s.heap [] := va_S.rf
  have hl := lv_entry [.ref a0, .int a1] (n := 3) (Nat.le_of_ble_eq_true rfl)
  rw [lg_entry_eq]
  generalize (lg_sl [.ref a0, .int a1] ++ List.replicate (3 - (lg_sl [.ref a0, .int a1]).length) Slot.unset).toArray = ls at hl ⊢
  have hl : lv_has ls 3 [(0, .ref a0), (1, .int a1)] := hl
  rw [f_X7_mixBlock] at h
  refine lv_iconst (v := 0) hx hb dX7_mixBlock_0 (by decide) ?_
  refine lv_istore_n (lv' := [(2, .int 0), (0, .ref a0), (1, .int a1)]) hx hb dX7_mixBlock_1 rfl hl (by decide) rfl (fun ls hl => ?_)
  have L2 : ∀ (y2_0 : Nat) (y2_1 : Int32) (fu : Nat) (S2_ : St) (y2_2 : Int32) (res : St), f_X7_mixBlock_L2 y2_0 y2_1 fu S2_ y2_2 = some res → ∀ (H : Heap) (locs : List Loc) (ls : Array Slot), SP D cy S2_ H → (∀ a, S2_ a ≠ none → (dm S s.heap.size) a) → va_S (dm S s.heap.size) s.heap H locs → lv_has ls 3 [(0, .ref y2_0), (1, .int y2_1), (2, .int y2_2)] → (∀ (H : Heap) (locs : List Loc) (ls : Array Slot), SP D cy res H → (∀ a, res a ≠ none → (dm S s.heap.size) a) → va_S (dm S s.heap.size) s.heap H locs → lv_has ls 3 [(0, .ref y2_0), (1, .int y2_1)] → W p l e rm_X7_mixBlock s m ([.ref a0, .int a1] : List Value).toArray below meth c H locs 0 0 (MQ below (va_Qv (fun _ : Unit => True) (fun _ t => PoS D cy S1 (dm S s.heap.size) t) (dm S s.heap.size)) ([.ref a0, .int a1] : List Value).toArray s 0 0 (dm S s.heap.size)) (F0 m 25 ls [])) → W p l e rm_X7_mixBlock s m ([.ref a0, .int a1] : List Value).toArray below meth c H locs 0 0 (MQ below (va_Qv (fun _ : Unit => True) (fun _ t => PoS D cy S1 (dm S s.heap.size) t) (dm S s.heap.size)) ([.ref a0, .int a1] : List Value).toArray s 0 0 (dm S s.heap.size)) (F0 m 2 ls []) := by
    intro y2_0 y2_1 fu
    induction fu with
    | zero =>
      intro S2_ y2_2 res h
      rw [f_X7_mixBlock_L2] at h
      cases h
    | succ fu ih =>
      intro S2_ y2_2 res h H locs ls hP hD hS hl hexit
      rw [f_X7_mixBlock_L2] at h
      refine lv_iload_n hx hb dX7_mixBlock_2 rfl (lv_at hl 2 rfl) ?_
      refine lv_bipush (v := 12) hx hb dX7_mixBlock_3 (by decide) ?_
      refine lv_icmp_ge (tgt := 25) hx hb dX7_mixBlock_5 (by decide) (fun c3 => ?_) (fun c3 => ?_)
      · replace h := ifp c3 h
        cases h
        exact hexit _ _ _ hP hD hS (lv_sub hl [0, 1] rfl)
      · replace h := ifn c3 h
        refine lv_aload_n hx hb dX7_mixBlock_8 rfl (lv_at hl 0 rfl) ?_
        refine lv_aload_n hx hb dX7_mixBlock_9 rfl (lv_at hl 0 rfl) ?_
        refine lv_iload_n hx hb dX7_mixBlock_10 rfl (lv_at hl 1 rfl) ?_
        refine lv_iload_n hx hb dX7_mixBlock_11 rfl (lv_at hl 2 rfl) ?_
        replace h := bd h
        obtain ⟨_, q4, h⟩ := h
        replace h := bd h
        obtain ⟨z6, q5, h⟩ := h
        refine c_X7_blockNow ⟨hx, hb, hml, hown, hts⟩ hl.1 hK hP hD hA hS wd_1150 ⟨(Nat.le_of_ble_eq_true rfl), (Nat.le_of_ble_eq_true rfl)⟩ q5 q4 (Nat.le_of_ble_eq_true rfl) dX7_mixBlock_12 ⟨(Nat.le_of_ble_eq_true rfl), (Nat.le_of_ble_eq_true rfl)⟩ (fun H locs hP hD hS => ?_)
        refine lv_i2l (v := (Int32.toInt64 z6.1)) hx hb dX7_mixBlock_15 rfl ?_
        replace h := bd h
        obtain ⟨_, q7, h⟩ := h
        replace h := bd h
        obtain ⟨z9, q8, h⟩ := h
        refine c_X7_mix ⟨hx, hb, hml, hown, hts⟩ hl.1 hK hP hD hA hS wd_1250 ⟨(Nat.le_of_ble_eq_true rfl), (Nat.le_of_ble_eq_true rfl)⟩ q8 q7 (Nat.le_of_ble_eq_true rfl) dX7_mixBlock_16 ⟨(Nat.le_of_ble_eq_true rfl), (Nat.le_of_ble_eq_true rfl)⟩ (fun H locs hP hD hS => ?_)
        refine lv_iinc (v := (y2_2 + 1)) (lv' := [(2, .int (y2_2 + 1)), (0, .ref y2_0), (1, .int y2_1)]) hx hb dX7_mixBlock_19 hl (k := 2) rfl rfl (by decide) rfl (fun ls hl => ?_)
        refine lv_goto (tgt := 2) hx hb dX7_mixBlock_22 (by decide) ?_
        exact ih z9 (y2_2 + 1) _ h _ _ _ hP hD hS (lv_sub hl [1, 2, 0] rfl) hexit
  replace h := bd h
  obtain ⟨z1, q10, h⟩ := h
  refine L2 a0 a1 FU S 0 z1 q10 _ _ _ hP hD hS (lv_sub hl [1, 2, 0] rfl) (fun H locs ls hP hD hS hl => ?_)
  refine lv_iconst (v := 0) hx hb dX7_mixBlock_25 (by decide) ?_
  refine lv_istore_n (lv' := [(2, .int 0), (0, .ref a0), (1, .int a1)]) hx hb dX7_mixBlock_26 rfl hl (by decide) rfl (fun ls hl => ?_)
  have L27 : ∀ (y27_0 : Nat) (y27_1 : Int32) (fu : Nat) (S27_ : St) (y27_2 : Int32) (res : St), f_X7_mixBlock_L27 y27_0 y27_1 fu S27_ y27_2 = some res → ∀ (H : Heap) (locs : List Loc) (ls : Array Slot), SP D cy S27_ H → (∀ a, S27_ a ≠ none → (dm S s.heap.size) a) → va_S (dm S s.heap.size) s.heap H locs → lv_has ls 3 [(0, .ref y27_0), (1, .int y27_1), (2, .int y27_2)] → (∀ (H : Heap) (locs : List Loc) (ls : Array Slot), SP D cy res H → (∀ a, res a ≠ none → (dm S s.heap.size) a) → va_S (dm S s.heap.size) s.heap H locs → lv_has ls 3 [(0, .ref y27_0), (1, .int y27_1)] → W p l e rm_X7_mixBlock s m ([.ref a0, .int a1] : List Value).toArray below meth c H locs 0 0 (MQ below (va_Qv (fun _ : Unit => True) (fun _ t => PoS D cy S1 (dm S s.heap.size) t) (dm S s.heap.size)) ([.ref a0, .int a1] : List Value).toArray s 0 0 (dm S s.heap.size)) (F0 m 57 ls [])) → W p l e rm_X7_mixBlock s m ([.ref a0, .int a1] : List Value).toArray below meth c H locs 0 0 (MQ below (va_Qv (fun _ : Unit => True) (fun _ t => PoS D cy S1 (dm S s.heap.size) t) (dm S s.heap.size)) ([.ref a0, .int a1] : List Value).toArray s 0 0 (dm S s.heap.size)) (F0 m 27 ls []) := by
    intro y27_0 y27_1 fu
    induction fu with
    | zero =>
      intro S27_ y27_2 res h
      rw [f_X7_mixBlock_L27] at h
      cases h
    | succ fu ih =>
      intro S27_ y27_2 res h H locs ls hP hD hS hl hexit
      rw [f_X7_mixBlock_L27] at h
      refine lv_iload_n hx hb dX7_mixBlock_27 rfl (lv_at hl 2 rfl) ?_
      refine lv_aload_n hx hb dX7_mixBlock_28 rfl (lv_at hl 0 rfl) ?_
      refine lv_iload_n hx hb dX7_mixBlock_29 rfl (lv_at hl 1 rfl) ?_
      refine lv_iconst (v := 0) hx hb dX7_mixBlock_30 (by decide) ?_
      replace h := bd h
      obtain ⟨_, q13, h⟩ := h
      replace h := bd h
      obtain ⟨x15, q14, h⟩ := h
      refine c_X7_of ⟨hx, hb, hml, hown, hts⟩ hl.1 hK hP hS wd_961 ⟨(Nat.le_of_ble_eq_true rfl), (Nat.le_of_ble_eq_true rfl)⟩ q14 q13 (Nat.le_of_ble_eq_true rfl) dX7_mixBlock_31 ⟨(Nat.le_of_ble_eq_true rfl), (Nat.le_of_ble_eq_true rfl)⟩ (fun H locs hP hS => ?_)
      refine lv_icmp_ge (tgt := 57) hx hb dX7_mixBlock_34 (by decide) (fun c16 => ?_) (fun c16 => ?_)
      · replace h := ifp c16 h
        cases h
        exact hexit _ _ _ hP hD hS (lv_sub hl [0, 1] rfl)
      · replace h := ifn c16 h
        refine lv_aload_n hx hb dX7_mixBlock_37 rfl (lv_at hl 0 rfl) ?_
        refine lv_aload_n hx hb dX7_mixBlock_38 rfl (lv_at hl 0 rfl) ?_
        refine lv_iload_n hx hb dX7_mixBlock_39 rfl (lv_at hl 1 rfl) ?_
        refine lv_bipush (v := 8) hx hb dX7_mixBlock_40 (by decide) ?_
        refine lv_iload_n hx hb dX7_mixBlock_42 rfl (lv_at hl 2 rfl) ?_
        refine lv_iadd hx hb dX7_mixBlock_43 ?_
        replace h := bd h
        obtain ⟨_, q17, h⟩ := h
        replace h := bd h
        obtain ⟨x19, q18, h⟩ := h
        refine c_X7_of ⟨hx, hb, hml, hown, hts⟩ hl.1 hK hP hS wd_961 ⟨(Nat.le_of_ble_eq_true rfl), (Nat.le_of_ble_eq_true rfl)⟩ q18 q17 (Nat.le_of_ble_eq_true rfl) dX7_mixBlock_44 ⟨(Nat.le_of_ble_eq_true rfl), (Nat.le_of_ble_eq_true rfl)⟩ (fun H locs hP hS => ?_)
        refine lv_i2l (v := (Int32.toInt64 x19)) hx hb dX7_mixBlock_47 rfl ?_
        replace h := bd h
        obtain ⟨_, q20, h⟩ := h
        replace h := bd h
        obtain ⟨z22, q21, h⟩ := h
        refine c_X7_mix ⟨hx, hb, hml, hown, hts⟩ hl.1 hK hP hD hA hS wd_1250 ⟨(Nat.le_of_ble_eq_true rfl), (Nat.le_of_ble_eq_true rfl)⟩ q21 q20 (Nat.le_of_ble_eq_true rfl) dX7_mixBlock_48 ⟨(Nat.le_of_ble_eq_true rfl), (Nat.le_of_ble_eq_true rfl)⟩ (fun H locs hP hD hS => ?_)
        refine lv_iinc (v := (y27_2 + 1)) (lv' := [(2, .int (y27_2 + 1)), (0, .ref y27_0), (1, .int y27_1)]) hx hb dX7_mixBlock_51 hl (k := 2) rfl rfl (by decide) rfl (fun ls hl => ?_)
        refine lv_goto (tgt := 27) hx hb dX7_mixBlock_54 (by decide) ?_
        exact ih z22 (y27_2 + 1) _ h _ _ _ hP hD hS (lv_sub hl [1, 2, 0] rfl) hexit
  replace h := bd h
  obtain ⟨z11, q23, h⟩ := h
  refine L27 a0 a1 FU z1 0 z11 q23 _ _ _ hP hD hS (lv_sub hl [1, 2, 0] rfl) (fun H locs ls hP hD hS hl => ?_)
  refine lv_iconst (v := 0) hx hb dX7_mixBlock_57 (by decide) ?_
  refine lv_istore_n (lv' := [(2, .int 0), (0, .ref a0), (1, .int a1)]) hx hb dX7_mixBlock_58 rfl hl (by decide) rfl (fun ls hl => ?_)
  have L59 : ∀ (y59_0 : Nat) (y59_1 : Int32) (fu : Nat) (S59_ : St) (y59_2 : Int32) (res : St), f_X7_mixBlock_L59 y59_0 y59_1 fu S59_ y59_2 = some res → ∀ (H : Heap) (locs : List Loc) (ls : Array Slot), SP D cy S59_ H → (∀ a, S59_ a ≠ none → (dm S s.heap.size) a) → va_S (dm S s.heap.size) s.heap H locs → lv_has ls 3 [(0, .ref y59_0), (1, .int y59_1), (2, .int y59_2)] → (∀ (H : Heap) (locs : List Loc) (ls : Array Slot), SP D cy res H → (∀ a, res a ≠ none → (dm S s.heap.size) a) → va_S (dm S s.heap.size) s.heap H locs → lv_has ls 3 [(0, .ref y59_0), (1, .int y59_1)] → W p l e rm_X7_mixBlock s m ([.ref a0, .int a1] : List Value).toArray below meth c H locs 0 0 (MQ below (va_Qv (fun _ : Unit => True) (fun _ t => PoS D cy S1 (dm S s.heap.size) t) (dm S s.heap.size)) ([.ref a0, .int a1] : List Value).toArray s 0 0 (dm S s.heap.size)) (F0 m 82 ls [])) → W p l e rm_X7_mixBlock s m ([.ref a0, .int a1] : List Value).toArray below meth c H locs 0 0 (MQ below (va_Qv (fun _ : Unit => True) (fun _ t => PoS D cy S1 (dm S s.heap.size) t) (dm S s.heap.size)) ([.ref a0, .int a1] : List Value).toArray s 0 0 (dm S s.heap.size)) (F0 m 59 ls []) := by
    intro y59_0 y59_1 fu
    induction fu with
    | zero =>
      intro S59_ y59_2 res h
      rw [f_X7_mixBlock_L59] at h
      cases h
    | succ fu ih =>
      intro S59_ y59_2 res h H locs ls hP hD hS hl hexit
      rw [f_X7_mixBlock_L59] at h
      refine lv_iload_n hx hb dX7_mixBlock_59 rfl (lv_at hl 2 rfl) ?_
      refine lv_bipush (v := 6) hx hb dX7_mixBlock_60 (by decide) ?_
      refine lv_icmp_ge (tgt := 82) hx hb dX7_mixBlock_62 (by decide) (fun c26 => ?_) (fun c26 => ?_)
      · replace h := ifp c26 h
        cases h
        exact hexit _ _ _ hP hD hS (lv_sub hl [0, 1] rfl)
      · replace h := ifn c26 h
        refine lv_aload_n hx hb dX7_mixBlock_65 rfl (lv_at hl 0 rfl) ?_
        refine lv_aload_n hx hb dX7_mixBlock_66 rfl (lv_at hl 0 rfl) ?_
        refine lv_iload_n hx hb dX7_mixBlock_67 rfl (lv_at hl 1 rfl) ?_
        refine lv_iload_n hx hb dX7_mixBlock_68 rfl (lv_at hl 2 rfl) ?_
        replace h := bd h
        obtain ⟨_, q27, h⟩ := h
        replace h := bd h
        obtain ⟨z29, q28, h⟩ := h
        refine c_X7_costNow ⟨hx, hb, hml, hown, hts⟩ hl.1 hK hP hD hA hS wd_1193 ⟨(Nat.le_of_ble_eq_true rfl), (Nat.le_of_ble_eq_true rfl)⟩ q28 q27 (Nat.le_of_ble_eq_true rfl) dX7_mixBlock_69 ⟨(Nat.le_of_ble_eq_true rfl), (Nat.le_of_ble_eq_true rfl)⟩ (fun H locs hP hD hS => ?_)
        refine lv_i2l (v := (Int32.toInt64 z29.1)) hx hb dX7_mixBlock_72 rfl ?_
        replace h := bd h
        obtain ⟨_, q30, h⟩ := h
        replace h := bd h
        obtain ⟨z32, q31, h⟩ := h
        refine c_X7_mix ⟨hx, hb, hml, hown, hts⟩ hl.1 hK hP hD hA hS wd_1250 ⟨(Nat.le_of_ble_eq_true rfl), (Nat.le_of_ble_eq_true rfl)⟩ q31 q30 (Nat.le_of_ble_eq_true rfl) dX7_mixBlock_73 ⟨(Nat.le_of_ble_eq_true rfl), (Nat.le_of_ble_eq_true rfl)⟩ (fun H locs hP hD hS => ?_)
        refine lv_iinc (v := (y59_2 + 1)) (lv' := [(2, .int (y59_2 + 1)), (0, .ref y59_0), (1, .int y59_1)]) hx hb dX7_mixBlock_76 hl (k := 2) rfl rfl (by decide) rfl (fun ls hl => ?_)
        refine lv_goto (tgt := 59) hx hb dX7_mixBlock_79 (by decide) ?_
        exact ih z32 (y59_2 + 1) _ h _ _ _ hP hD hS (lv_sub hl [1, 2, 0] rfl) hexit
  replace h := bd h
  obtain ⟨z24, q33, h⟩ := h
  refine L59 a0 a1 FU z11 0 z24 q33 _ _ _ hP hD hS (lv_sub hl [1, 2, 0] rfl) (fun H locs ls hP hD hS hl => ?_)
  refine lv_iconst (v := 0) hx hb dX7_mixBlock_82 (by decide) ?_
  refine lv_istore_n (lv' := [(2, .int 0), (0, .ref a0), (1, .int a1)]) hx hb dX7_mixBlock_83 rfl hl (by decide) rfl (fun ls hl => ?_)
  have L84 : ∀ (y84_0 : Nat) (y84_1 : Int32) (fu : Nat) (S84_ : St) (y84_2 : Int32) (res : St), f_X7_mixBlock_L84 y84_0 y84_1 fu S84_ y84_2 = some res → ∀ (H : Heap) (locs : List Loc) (ls : Array Slot), SP D cy S84_ H → (∀ a, S84_ a ≠ none → (dm S s.heap.size) a) → va_S (dm S s.heap.size) s.heap H locs → lv_has ls 3 [(0, .ref y84_0), (1, .int y84_1), (2, .int y84_2)] → (∀ (H : Heap) (locs : List Loc) (ls : Array Slot), SP D cy res H → (∀ a, res a ≠ none → (dm S s.heap.size) a) → va_S (dm S s.heap.size) s.heap H locs → lv_has ls 3 [(0, .ref y84_0), (1, .int y84_1)] → W p l e rm_X7_mixBlock s m ([.ref a0, .int a1] : List Value).toArray below meth c H locs 0 0 (MQ below (va_Qv (fun _ : Unit => True) (fun _ t => PoS D cy S1 (dm S s.heap.size) t) (dm S s.heap.size)) ([.ref a0, .int a1] : List Value).toArray s 0 0 (dm S s.heap.size)) (F0 m 117 ls [])) → W p l e rm_X7_mixBlock s m ([.ref a0, .int a1] : List Value).toArray below meth c H locs 0 0 (MQ below (va_Qv (fun _ : Unit => True) (fun _ t => PoS D cy S1 (dm S s.heap.size) t) (dm S s.heap.size)) ([.ref a0, .int a1] : List Value).toArray s 0 0 (dm S s.heap.size)) (F0 m 84 ls []) := by
    intro y84_0 y84_1 fu
    induction fu with
    | zero =>
      intro S84_ y84_2 res h
      rw [f_X7_mixBlock_L84] at h
      cases h
    | succ fu ih =>
      intro S84_ y84_2 res h H locs ls hP hD hS hl hexit
      rw [f_X7_mixBlock_L84] at h
      refine lv_iload_n hx hb dX7_mixBlock_84 rfl (lv_at hl 2 rfl) ?_
      refine lv_bipush (v := 12) hx hb dX7_mixBlock_85 (by decide) ?_
      refine lv_icmp_ge (tgt := 117) hx hb dX7_mixBlock_87 (by decide) (fun c36 => ?_) (fun c36 => ?_)
      · replace h := ifp c36 h
        cases h
        exact hexit _ _ _ hP hD hS (lv_sub hl [0, 1] rfl)
      · replace h := ifn c36 h
        refine lv_aload_n hx hb dX7_mixBlock_90 rfl (lv_at hl 0 rfl) ?_
        refine lv_aload_n hx hb dX7_mixBlock_91 rfl (lv_at hl 0 rfl) ?_
        refine lv_iload_n hx hb dX7_mixBlock_92 rfl (lv_at hl 1 rfl) ?_
        refine lv_iload_n hx hb dX7_mixBlock_93 rfl (lv_at hl 2 rfl) ?_
        refine lv_bipush (v := 6) hx hb dX7_mixBlock_94 (by decide) ?_
        refine lv_irem hx hb dX7_mixBlock_96 (by decide) ?_
        refine lv_iload_n hx hb dX7_mixBlock_97 rfl (lv_at hl 2 rfl) ?_
        refine lv_bipush (v := 6) hx hb dX7_mixBlock_98 (by decide) ?_
        refine lv_idiv hx hb dX7_mixBlock_100 (by decide) ?_
        refine lv_iconst (v := 2) hx hb dX7_mixBlock_101 (by decide) ?_
        refine lv_imul hx hb dX7_mixBlock_102 ?_
        refine lv_iconst (v := 3) hx hb dX7_mixBlock_103 (by decide) ?_
        replace h := bd h
        obtain ⟨_, q37, h⟩ := h
        replace h := bd h
        obtain ⟨z39, q38, h⟩ := h
        refine c_X7_workNow ⟨hx, hb, hml, hown, hts⟩ hl.1 hK hP hD hA hS wd_1201 ⟨(Nat.le_of_ble_eq_true rfl), (Nat.le_of_ble_eq_true rfl)⟩ q38 q37 (Nat.le_of_ble_eq_true rfl) dX7_mixBlock_104 ⟨(Nat.le_of_ble_eq_true rfl), (Nat.le_of_ble_eq_true rfl)⟩ (fun H locs hP hD hS => ?_)
        refine lv_i2l (v := (Int32.toInt64 z39.1)) hx hb dX7_mixBlock_107 rfl ?_
        replace h := bd h
        obtain ⟨_, q40, h⟩ := h
        replace h := bd h
        obtain ⟨z42, q41, h⟩ := h
        refine c_X7_mix ⟨hx, hb, hml, hown, hts⟩ hl.1 hK hP hD hA hS wd_1250 ⟨(Nat.le_of_ble_eq_true rfl), (Nat.le_of_ble_eq_true rfl)⟩ q41 q40 (Nat.le_of_ble_eq_true rfl) dX7_mixBlock_108 ⟨(Nat.le_of_ble_eq_true rfl), (Nat.le_of_ble_eq_true rfl)⟩ (fun H locs hP hD hS => ?_)
        refine lv_iinc (v := (y84_2 + 1)) (lv' := [(2, .int (y84_2 + 1)), (0, .ref y84_0), (1, .int y84_1)]) hx hb dX7_mixBlock_111 hl (k := 2) rfl rfl (by decide) rfl (fun ls hl => ?_)
        refine lv_goto (tgt := 84) hx hb dX7_mixBlock_114 (by decide) ?_
        exact ih z42 (y84_2 + 1) _ h _ _ _ hP hD hS (lv_sub hl [1, 2, 0] rfl) hexit
  replace h := bd h
  obtain ⟨z34, q43, h⟩ := h
  refine L84 a0 a1 FU z24 0 z34 q43 _ _ _ hP hD hS (lv_sub hl [1, 2, 0] rfl) (fun H locs ls hP hD hS hl => ?_)
  refine lv_aload_n hx hb dX7_mixBlock_117 rfl (lv_at hl 0 rfl) ?_
  refine lv_aload_n hx hb dX7_mixBlock_118 rfl (lv_at hl 0 rfl) ?_
  refine lv_iload_n hx hb dX7_mixBlock_119 rfl (lv_at hl 1 rfl) ?_
  refine lv_bipush (v := 20) hx hb dX7_mixBlock_120 (by decide) ?_
  replace h := bd h
  obtain ⟨_, q44, h⟩ := h
  replace h := bd h
  obtain ⟨z46, q45, h⟩ := h
  refine c_X7_regretThen ⟨hx, hb, hml, hown, hts⟩ hl.1 hK hP hD hA hS wd_1209 ⟨(Nat.le_of_ble_eq_true rfl), (Nat.le_of_ble_eq_true rfl)⟩ q45 q44 (Nat.le_of_ble_eq_true rfl) dX7_mixBlock_122 ⟨(Nat.le_of_ble_eq_true rfl), (Nat.le_of_ble_eq_true rfl)⟩ (fun H locs hP hD hS => ?_)
  refine lv_i2l (v := (Int32.toInt64 z46.1)) hx hb dX7_mixBlock_125 rfl ?_
  replace h := bd h
  obtain ⟨_, q47, h⟩ := h
  replace h := bd h
  obtain ⟨z49, q48, h⟩ := h
  refine c_X7_mix ⟨hx, hb, hml, hown, hts⟩ hl.1 hK hP hD hA hS wd_1250 ⟨(Nat.le_of_ble_eq_true rfl), (Nat.le_of_ble_eq_true rfl)⟩ q48 q47 (Nat.le_of_ble_eq_true rfl) dX7_mixBlock_126 ⟨(Nat.le_of_ble_eq_true rfl), (Nat.le_of_ble_eq_true rfl)⟩ (fun H locs hP hD hS => ?_)
  refine lv_aload_n hx hb dX7_mixBlock_129 rfl (lv_at hl 0 rfl) ?_
  refine lv_aload_n hx hb dX7_mixBlock_130 rfl (lv_at hl 0 rfl) ?_
  refine lv_iload_n hx hb dX7_mixBlock_131 rfl (lv_at hl 1 rfl) ?_
  replace h := bd h
  obtain ⟨_, q50, h⟩ := h
  replace h := bd h
  obtain ⟨z52, q51, h⟩ := h
  refine c_X7_gainNow ⟨hx, hb, hml, hown, hts⟩ hl.1 hK hP hD hA hS wd_1217 ⟨(Nat.le_of_ble_eq_true rfl), (Nat.le_of_ble_eq_true rfl)⟩ q51 q50 (Nat.le_of_ble_eq_true rfl) dX7_mixBlock_132 ⟨(Nat.le_of_ble_eq_true rfl), (Nat.le_of_ble_eq_true rfl)⟩ (fun H locs hP hD hS => ?_)
  refine lv_i2l (v := (Int32.toInt64 z52.1)) hx hb dX7_mixBlock_135 rfl ?_
  replace h := bd h
  obtain ⟨_, q53, h⟩ := h
  replace h := bd h
  obtain ⟨z55, q54, h⟩ := h
  refine c_X7_mix ⟨hx, hb, hml, hown, hts⟩ hl.1 hK hP hD hA hS wd_1250 ⟨(Nat.le_of_ble_eq_true rfl), (Nat.le_of_ble_eq_true rfl)⟩ q54 q53 (Nat.le_of_ble_eq_true rfl) dX7_mixBlock_136 ⟨(Nat.le_of_ble_eq_true rfl), (Nat.le_of_ble_eq_true rfl)⟩ (fun H locs hP hD hS => ?_)
  refine lv_aload_n hx hb dX7_mixBlock_139 rfl (lv_at hl 0 rfl) ?_
  refine lv_aload_n hx hb dX7_mixBlock_140 rfl (lv_at hl 0 rfl) ?_
  refine lv_iload_n hx hb dX7_mixBlock_141 rfl (lv_at hl 1 rfl) ?_
  refine lv_iconst (v := 0) hx hb dX7_mixBlock_142 (by decide) ?_
  replace h := bd h
  obtain ⟨_, q56, h⟩ := h
  replace h := bd h
  obtain ⟨z58, q57, h⟩ := h
  refine c_X7_cheapestNow ⟨hx, hb, hml, hown, hts⟩ hl.1 hK hP hD hA hS wd_1225 ⟨(Nat.le_of_ble_eq_true rfl), (Nat.le_of_ble_eq_true rfl)⟩ q57 q56 (Nat.le_of_ble_eq_true rfl) dX7_mixBlock_143 ⟨(Nat.le_of_ble_eq_true rfl), (Nat.le_of_ble_eq_true rfl)⟩ (fun H locs hP hD hS => ?_)
  refine lv_i2l (v := (Int32.toInt64 z58.1)) hx hb dX7_mixBlock_146 rfl ?_
  replace h := bd h
  obtain ⟨_, q59, h⟩ := h
  replace h := bd h
  obtain ⟨z61, q60, h⟩ := h
  refine c_X7_mix ⟨hx, hb, hml, hown, hts⟩ hl.1 hK hP hD hA hS wd_1250 ⟨(Nat.le_of_ble_eq_true rfl), (Nat.le_of_ble_eq_true rfl)⟩ q60 q59 (Nat.le_of_ble_eq_true rfl) dX7_mixBlock_147 ⟨(Nat.le_of_ble_eq_true rfl), (Nat.le_of_ble_eq_true rfl)⟩ (fun H locs hP hD hS => ?_)
  refine lv_aload_n hx hb dX7_mixBlock_150 rfl (lv_at hl 0 rfl) ?_
  refine lv_aload_n hx hb dX7_mixBlock_151 rfl (lv_at hl 0 rfl) ?_
  refine lv_iload_n hx hb dX7_mixBlock_152 rfl (lv_at hl 1 rfl) ?_
  replace h := bd h
  obtain ⟨_, q62, h⟩ := h
  replace h := bd h
  obtain ⟨z64, q63, h⟩ := h
  refine c_X7_mateFor ⟨hx, hb, hml, hown, hts⟩ hl.1 hK hP hD hA hS wd_1233 ⟨(Nat.le_of_ble_eq_true rfl), (Nat.le_of_ble_eq_true rfl)⟩ q63 q62 (Nat.le_of_ble_eq_true rfl) dX7_mixBlock_153 ⟨(Nat.le_of_ble_eq_true rfl), (Nat.le_of_ble_eq_true rfl)⟩ (fun H locs hP hD hS => ?_)
  refine lv_i2l (v := (Int32.toInt64 z64.1)) hx hb dX7_mixBlock_156 rfl ?_
  replace h := bd h
  obtain ⟨_, q65, h⟩ := h
  replace h := bd h
  obtain ⟨z67, q66, h⟩ := h
  refine c_X7_mix ⟨hx, hb, hml, hown, hts⟩ hl.1 hK hP hD hA hS wd_1250 ⟨(Nat.le_of_ble_eq_true rfl), (Nat.le_of_ble_eq_true rfl)⟩ q66 q65 (Nat.le_of_ble_eq_true rfl) dX7_mixBlock_157 ⟨(Nat.le_of_ble_eq_true rfl), (Nat.le_of_ble_eq_true rfl)⟩ (fun H locs hP hD hS => ?_)
  cases h
  exact e_vm hx hb hlocks hr hP hD hS (Nat.le_of_ble_eq_true rfl) (Nat.le_of_ble_eq_true rfl) dX7_mixBlock_160
set_option maxRecDepth 100000 in
theorem c_X7_mixBlock {p : Program} {l : Launch} {e : Env} {R : Room} {s : State} {m : MethodId} {args : Array Value} {below : List Frame} {meth : Method} {c : Code} {H : Heap} {locs : List Loc} {cells slots : Nat} {Q : State → Prop} {cc : ByteArray} {pc index nL : Nat} {ls : Array Slot} {rest : List Value} {D : va_G} {cy : Nat → ClassId} {A0 : Nat → Prop} {S : St} {H0 : Heap} {own : String} {u : Unit} {a0 : Nat} {a1 : Int32} {S1 : St}  (hF : CallFix p m c cc nL s args ALLW own) (hsz : ls.size = nL) (hK : va_K D vwCl (tyL cy) s) (hP : SP D cy S H) (hD : ∀ a, S a ≠ none → A0 a) (hA : ∀ q, H0.size ≤ q → A0 q) (hS : va_S A0 H0 H locs) (hk : Cond.methodLink own index yX7_mixBlock ∈ ALLW) (hR : rm_X7_mixBlock.frames + 1 ≤ R.frames ∧ 8 + (3 + 11) + rm_X7_mixBlock.locals ≤ R.locals) (h : f_X7_mixBlock S a0 a1 = some S1) (hc : oO S a0 6 = some u) (hW : (rest.map fun v => v.category).sum ≤ 8) (hdg : decode cc pc = .ok (.invokevirtual index, 3)) (hf : cells + 0 ≤ R.cells ∧ slots + 0 ≤ R.slots)
    (kk : ∀ (H1 : Heap) (locs1 : List Loc), SP D cy S1 H1 → (∀ a, S1 a ≠ none → A0 a) → va_S A0 H0 H1 locs1 → W p l e R s m args below meth c H1 locs1 (cells + 0) (slots + 0) Q (F0 m (pc + 3) ls (rest))) : W p l e R s m args below meth c H locs cells slots Q (F0 m pc ls (.int a1 :: .ref a0 :: rest)) := by
  exact k_vVm (As := [.int a1]) hF hsz (m_X7_mixBlock l D cy H.size S a0 a1 S1 h) (cwV_of (n := 1) hF.2.2.2.2 hk wd_1257 wd_67 wd_75 wd_1258 rfl rfl (by decide +kernel) hR) rfl hK hP hD hA hS (ci := 6) hc rfl hW rfl hdg hf kk
/-- VowBlocksModel.digest()J -/
def f_X7_digest_L14 (y14_0 : Nat) : Nat → St → Int32 →  Option (St)
  | 0, _, _ => none
  | fu + 1, S14_, y14_1 =>
    if 16 ≤ y14_1 then
      some S14_
    else
      (oO S14_ y14_0 6).bind fun _ =>
      (f_X7_counted S14_ y14_0 y14_1).bind fun z10 =>
      (oO z10.2 y14_0 6).bind fun _ =>
      (f_X7_mix z10.2 y14_0 (Int32.toInt64 z10.1)).bind fun z13 =>
      f_X7_digest_L14 y14_0 fu z13 (y14_1 + 1)
def f_X7_digest_L60 (y60_0 : Nat) : Nat → St → Int32 →  Option (St)
  | 0, _, _ => none
  | fu + 1, S60_, y60_1 =>
    (gR S60_ y60_0 6 0).bind fun x31 =>
    (aI S60_ x31 2).bind fun x33 =>
    if x33 ≤ y60_1 then
      some S60_
    else
      (oO S60_ y60_0 6).bind fun _ =>
      (f_X7_mixBlock S60_ y60_0 y60_1).bind fun z38 =>
      f_X7_digest_L60 y60_0 fu z38 (y60_1 + 1)
def f_X7_digest_L103 (y103_0 : Nat) : Nat → St → Int32 →  Option (St)
  | 0, _, _ => none
  | fu + 1, S103_, y103_1 =>
    (gI S103_ y103_0 6 3).bind fun x55 =>
    if x55 ≤ y103_1 then
      some S103_
    else
      (gR S103_ y103_0 6 4).bind fun x58 =>
      (aI S103_ x58 y103_1).bind fun x60 =>
      (oO S103_ y103_0 6).bind fun _ =>
      (f_X7_mix S103_ y103_0 (Int32.toInt64 x60)).bind fun z64 =>
      f_X7_digest_L103 y103_0 fu z64 (y103_1 + 1)
def f_X7_digest (S : St) (a0 : Nat) : Option (Int64 × St) :=
  (pI S a0 6 5 0).bind fun Z1 =>
  (pL Z1 a0 6 12 2441).bind fun Z3 =>
  (f_X7_digest_L14 a0 FU Z3 0).bind fun z5 =>
  (gR z5 a0 6 0).bind fun x15 =>
  (aI z5 x15 0).bind fun x17 =>
  (oO z5 a0 6).bind fun _ =>
  (f_X7_mix z5 a0 (Int32.toInt64 x17)).bind fun z21 =>
  (gR z21 a0 6 0).bind fun x22 =>
  (aI z21 x22 1).bind fun x24 =>
  (oO z21 a0 6).bind fun _ =>
  (f_X7_mix z21 a0 (Int32.toInt64 x24)).bind fun z28 =>
  (f_X7_digest_L60 a0 FU z28 0).bind fun z29 =>
  (oO z29 a0 6).bind fun _ =>
  (f_X7_mean z29 a0).bind fun z42 =>
  (f_Jxe99ae_doubleToLongBits_ccdee z42.1).bind fun x44 =>
  (oO z42.2 a0 6).bind fun _ =>
  (f_X7_mix z42.2 a0 x44).bind fun z47 =>
  (gI z47 a0 6 3).bind fun x48 =>
  (oO z47 a0 6).bind fun _ =>
  (f_X7_mix z47 a0 (Int32.toInt64 x48)).bind fun z52 =>
  (f_X7_digest_L103 a0 FU z52 0).bind fun z53 =>
  (gL z53 a0 6 12).bind fun x66 =>
  some (x66, z53)
abbrev rm_X7_digest : Room := { frames := 9, cells := 0, slots := 0, locals := 198 }
set_option maxHeartbeats 4000000 in
set_option maxRecDepth 100000 in
theorem m_X7_digest (l : Launch) (D : va_G) (cy : Nat → ClassId) (sz : Nat) (S : St) (a0 : Nat) (r : Int64) (S1 : St) (h : f_X7_digest S a0 = some (r, S1)) : Met l yX7_digest (wsA yX7_digest cX7_digest 2 (some .long)) rm_X7_digest (va_Pc [.ref a0] (PN D cy S sz)) (va_Ql (fun r' (_ : Unit) => r' = r) (fun _ t => PoS D cy S1 (dm S sz) t) (dm S sz)) 0 0 (dm S sz) := by
  refine Met.ofW (cc := cX7_digest) (maxL := 2) (ret := (some .long)) (by decide) rfl ?_
  intro p e s m args below meth c s₁ B hml hv
  obtain ⟨rfl, hsz, hP, hK⟩ := hv
  have hx := B.exec
  have hb := B.bytes
  have hr := B.returns
  have hts9 := atoms_spec (ws := wsA yX7_digest cX7_digest 2 (some .long)) B.pre
  have hts : ∀ w ∈ ALLW, w.before _ s = true := fun w h => hts9 w (List.mem_cons_of_mem _ h)
  have hown : s.vm.findClass RX7 = some m.cls := findClass_of_methodNamed B.named
  have hlocks := B.notSynchronized
  subst hsz
  have hD : ∀ a, S a ≠ none → dm S s.heap.size a := fun a h => Or.inl h
  have hA : ∀ q : Nat, s.heap.size ≤ q → dm S s.heap.size q := fun q h => Or.inr h
  have hS : va_S (dm S s.heap.size) s.heap s.heap [] := va_S.rf
  have hl := lv_entry [.ref a0] (n := 2) (Nat.le_of_ble_eq_true rfl)
  rw [lg_entry_eq]
  generalize (lg_sl [.ref a0] ++ List.replicate (2 - (lg_sl [.ref a0]).length) Slot.unset).toArray = ls at hl ⊢
  have hl : lv_has ls 2 [(0, .ref a0)] := hl
  rw [f_X7_digest] at h
  refine lv_aload_n hx hb dX7_digest_0 rfl (lv_at hl 0 rfl) ?_
  refine lv_iconst (v := 0) hx hb dX7_digest_1 (by decide) ?_
  replace h := bd h
  obtain ⟨Z1, q2, h⟩ := h
  refine fp_6_5 hx hb hts hown hK hP hD hS wd_892 q2 dX7_digest_2 (fun H locs hz9 hP hD hS => ?_)
  refine lv_aload_n hx hb dX7_digest_5 rfl (lv_at hl 0 rfl) ?_
  refine lv_ldc2 hx hb hown (hts _ wd_1249) dX7_digest_6 ?_
  replace h := bd h
  obtain ⟨Z3, q4, h⟩ := h
  refine fp_6_12 hx hb hts hown hK hP hD hS wd_899 q4 dX7_digest_9 (fun H locs hz9 hP hD hS => ?_)
  refine lv_iconst (v := 0) hx hb dX7_digest_12 (by decide) ?_
  refine lv_istore_n (lv' := [(1, .int 0), (0, .ref a0)]) hx hb dX7_digest_13 rfl hl (by decide) rfl (fun ls hl => ?_)
  have L14 : ∀ (y14_0 : Nat) (fu : Nat) (S14_ : St) (y14_1 : Int32) (res : St), f_X7_digest_L14 y14_0 fu S14_ y14_1 = some res → ∀ (H : Heap) (locs : List Loc) (ls : Array Slot), SP D cy S14_ H → (∀ a, S14_ a ≠ none → (dm S s.heap.size) a) → va_S (dm S s.heap.size) s.heap H locs → lv_has ls 2 [(0, .ref y14_0), (1, .int y14_1)] → (∀ (H : Heap) (locs : List Loc) (ls : Array Slot), SP D cy res H → (∀ a, res a ≠ none → (dm S s.heap.size) a) → va_S (dm S s.heap.size) s.heap H locs → lv_has ls 2 [(0, .ref y14_0)] → W p l e rm_X7_digest s m ([.ref a0] : List Value).toArray below meth c H locs 0 0 (MQ below (va_Ql (fun r' (_ : Unit) => r' = r) (fun _ t => PoS D cy S1 (dm S s.heap.size) t) (dm S s.heap.size)) ([.ref a0] : List Value).toArray s 0 0 (dm S s.heap.size)) (F0 m 36 ls [])) → W p l e rm_X7_digest s m ([.ref a0] : List Value).toArray below meth c H locs 0 0 (MQ below (va_Ql (fun r' (_ : Unit) => r' = r) (fun _ t => PoS D cy S1 (dm S s.heap.size) t) (dm S s.heap.size)) ([.ref a0] : List Value).toArray s 0 0 (dm S s.heap.size)) (F0 m 14 ls []) := by
    intro y14_0 fu
    induction fu with
    | zero =>
      intro S14_ y14_1 res h
      rw [f_X7_digest_L14] at h
      cases h
    | succ fu ih =>
      intro S14_ y14_1 res h H locs ls hP hD hS hl hexit
      rw [f_X7_digest_L14] at h
      refine lv_iload_n hx hb dX7_digest_14 rfl (lv_at hl 1 rfl) ?_
      refine lv_bipush (v := 16) hx hb dX7_digest_15 (by decide) ?_
      refine lv_icmp_ge (tgt := 36) hx hb dX7_digest_17 (by decide) (fun c7 => ?_) (fun c7 => ?_)
      · replace h := ifp c7 h
        cases h
        exact hexit _ _ _ hP hD hS (lv_sub hl [0] rfl)
      · replace h := ifn c7 h
        refine lv_aload_n hx hb dX7_digest_20 rfl (lv_at hl 0 rfl) ?_
        refine lv_aload_n hx hb dX7_digest_21 rfl (lv_at hl 0 rfl) ?_
        refine lv_iload_n hx hb dX7_digest_22 rfl (lv_at hl 1 rfl) ?_
        replace h := bd h
        obtain ⟨_, q8, h⟩ := h
        replace h := bd h
        obtain ⟨z10, q9, h⟩ := h
        refine c_X7_counted ⟨hx, hb, hml, hown, hts⟩ hl.1 hK hP hD hA hS wd_1170 ⟨(Nat.le_of_ble_eq_true rfl), (Nat.le_of_ble_eq_true rfl)⟩ q9 q8 (Nat.le_of_ble_eq_true rfl) dX7_digest_23 ⟨(Nat.le_of_ble_eq_true rfl), (Nat.le_of_ble_eq_true rfl)⟩ (fun H locs hP hD hS => ?_)
        refine lv_i2l (v := (Int32.toInt64 z10.1)) hx hb dX7_digest_26 rfl ?_
        replace h := bd h
        obtain ⟨_, q11, h⟩ := h
        replace h := bd h
        obtain ⟨z13, q12, h⟩ := h
        refine c_X7_mix ⟨hx, hb, hml, hown, hts⟩ hl.1 hK hP hD hA hS wd_1250 ⟨(Nat.le_of_ble_eq_true rfl), (Nat.le_of_ble_eq_true rfl)⟩ q12 q11 (Nat.le_of_ble_eq_true rfl) dX7_digest_27 ⟨(Nat.le_of_ble_eq_true rfl), (Nat.le_of_ble_eq_true rfl)⟩ (fun H locs hP hD hS => ?_)
        refine lv_iinc (v := (y14_1 + 1)) (lv' := [(1, .int (y14_1 + 1)), (0, .ref y14_0)]) hx hb dX7_digest_30 hl (k := 1) rfl rfl (by decide) rfl (fun ls hl => ?_)
        refine lv_goto (tgt := 14) hx hb dX7_digest_33 (by decide) ?_
        exact ih z13 (y14_1 + 1) _ h _ _ _ hP hD hS (lv_sub hl [1, 0] rfl) hexit
  replace h := bd h
  obtain ⟨z5, q14, h⟩ := h
  refine L14 a0 FU Z3 0 z5 q14 _ _ _ hP hD hS (lv_sub hl [1, 0] rfl) (fun H locs ls hP hD hS hl => ?_)
  refine lv_aload_n hx hb dX7_digest_36 rfl (lv_at hl 0 rfl) ?_
  refine lv_aload_n hx hb dX7_digest_37 rfl (lv_at hl 0 rfl) ?_
  replace h := bd h
  obtain ⟨x15, q16, h⟩ := h
  refine fg_6_0 hx hb hts hown hK hP wd_887 q16 dX7_digest_38 ?_
  refine lv_iconst (v := 0) hx hb dX7_digest_41 (by decide) ?_
  replace h := bd h
  obtain ⟨x17, q18, h⟩ := h
  refine r_aI hx hb hK hP q18 dX7_digest_42 ?_
  refine lv_i2l (v := (Int32.toInt64 x17)) hx hb dX7_digest_43 rfl ?_
  replace h := bd h
  obtain ⟨_, q19, h⟩ := h
  replace h := bd h
  obtain ⟨z21, q20, h⟩ := h
  refine c_X7_mix ⟨hx, hb, hml, hown, hts⟩ hl.1 hK hP hD hA hS wd_1250 ⟨(Nat.le_of_ble_eq_true rfl), (Nat.le_of_ble_eq_true rfl)⟩ q20 q19 (Nat.le_of_ble_eq_true rfl) dX7_digest_44 ⟨(Nat.le_of_ble_eq_true rfl), (Nat.le_of_ble_eq_true rfl)⟩ (fun H locs hP hD hS => ?_)
  refine lv_aload_n hx hb dX7_digest_47 rfl (lv_at hl 0 rfl) ?_
  refine lv_aload_n hx hb dX7_digest_48 rfl (lv_at hl 0 rfl) ?_
  replace h := bd h
  obtain ⟨x22, q23, h⟩ := h
  refine fg_6_0 hx hb hts hown hK hP wd_887 q23 dX7_digest_49 ?_
  refine lv_iconst (v := 1) hx hb dX7_digest_52 (by decide) ?_
  replace h := bd h
  obtain ⟨x24, q25, h⟩ := h
  refine r_aI hx hb hK hP q25 dX7_digest_53 ?_
  refine lv_i2l (v := (Int32.toInt64 x24)) hx hb dX7_digest_54 rfl ?_
  replace h := bd h
  obtain ⟨_, q26, h⟩ := h
  replace h := bd h
  obtain ⟨z28, q27, h⟩ := h
  refine c_X7_mix ⟨hx, hb, hml, hown, hts⟩ hl.1 hK hP hD hA hS wd_1250 ⟨(Nat.le_of_ble_eq_true rfl), (Nat.le_of_ble_eq_true rfl)⟩ q27 q26 (Nat.le_of_ble_eq_true rfl) dX7_digest_55 ⟨(Nat.le_of_ble_eq_true rfl), (Nat.le_of_ble_eq_true rfl)⟩ (fun H locs hP hD hS => ?_)
  refine lv_iconst (v := 0) hx hb dX7_digest_58 (by decide) ?_
  refine lv_istore_n (lv' := [(1, .int 0), (0, .ref a0)]) hx hb dX7_digest_59 rfl hl (by decide) rfl (fun ls hl => ?_)
  have L60 : ∀ (y60_0 : Nat) (fu : Nat) (S60_ : St) (y60_1 : Int32) (res : St), f_X7_digest_L60 y60_0 fu S60_ y60_1 = some res → ∀ (H : Heap) (locs : List Loc) (ls : Array Slot), SP D cy S60_ H → (∀ a, S60_ a ≠ none → (dm S s.heap.size) a) → va_S (dm S s.heap.size) s.heap H locs → lv_has ls 2 [(0, .ref y60_0), (1, .int y60_1)] → (∀ (H : Heap) (locs : List Loc) (ls : Array Slot), SP D cy res H → (∀ a, res a ≠ none → (dm S s.heap.size) a) → va_S (dm S s.heap.size) s.heap H locs → lv_has ls 2 [(0, .ref y60_0)] → W p l e rm_X7_digest s m ([.ref a0] : List Value).toArray below meth c H locs 0 0 (MQ below (va_Ql (fun r' (_ : Unit) => r' = r) (fun _ t => PoS D cy S1 (dm S s.heap.size) t) (dm S s.heap.size)) ([.ref a0] : List Value).toArray s 0 0 (dm S s.heap.size)) (F0 m 81 ls [])) → W p l e rm_X7_digest s m ([.ref a0] : List Value).toArray below meth c H locs 0 0 (MQ below (va_Ql (fun r' (_ : Unit) => r' = r) (fun _ t => PoS D cy S1 (dm S s.heap.size) t) (dm S s.heap.size)) ([.ref a0] : List Value).toArray s 0 0 (dm S s.heap.size)) (F0 m 60 ls []) := by
    intro y60_0 fu
    induction fu with
    | zero =>
      intro S60_ y60_1 res h
      rw [f_X7_digest_L60] at h
      cases h
    | succ fu ih =>
      intro S60_ y60_1 res h H locs ls hP hD hS hl hexit
      rw [f_X7_digest_L60] at h
      refine lv_iload_n hx hb dX7_digest_60 rfl (lv_at hl 1 rfl) ?_
      refine lv_aload_n hx hb dX7_digest_61 rfl (lv_at hl 0 rfl) ?_
      replace h := bd h
      obtain ⟨x31, q32, h⟩ := h
      refine fg_6_0 hx hb hts hown hK hP wd_887 q32 dX7_digest_62 ?_
      refine lv_iconst (v := 2) hx hb dX7_digest_65 (by decide) ?_
      replace h := bd h
      obtain ⟨x33, q34, h⟩ := h
      refine r_aI hx hb hK hP q34 dX7_digest_66 ?_
      refine lv_icmp_ge (tgt := 81) hx hb dX7_digest_67 (by decide) (fun c35 => ?_) (fun c35 => ?_)
      · replace h := ifp c35 h
        cases h
        exact hexit _ _ _ hP hD hS (lv_sub hl [0] rfl)
      · replace h := ifn c35 h
        refine lv_aload_n hx hb dX7_digest_70 rfl (lv_at hl 0 rfl) ?_
        refine lv_iload_n hx hb dX7_digest_71 rfl (lv_at hl 1 rfl) ?_
        replace h := bd h
        obtain ⟨_, q36, h⟩ := h
        replace h := bd h
        obtain ⟨z38, q37, h⟩ := h
        refine c_X7_mixBlock ⟨hx, hb, hml, hown, hts⟩ hl.1 hK hP hD hA hS wd_1255 ⟨(Nat.le_of_ble_eq_true rfl), (Nat.le_of_ble_eq_true rfl)⟩ q37 q36 (Nat.le_of_ble_eq_true rfl) dX7_digest_72 ⟨(Nat.le_of_ble_eq_true rfl), (Nat.le_of_ble_eq_true rfl)⟩ (fun H locs hP hD hS => ?_)
        refine lv_iinc (v := (y60_1 + 1)) (lv' := [(1, .int (y60_1 + 1)), (0, .ref y60_0)]) hx hb dX7_digest_75 hl (k := 1) rfl rfl (by decide) rfl (fun ls hl => ?_)
        refine lv_goto (tgt := 60) hx hb dX7_digest_78 (by decide) ?_
        exact ih z38 (y60_1 + 1) _ h _ _ _ hP hD hS (lv_sub hl [1, 0] rfl) hexit
  replace h := bd h
  obtain ⟨z29, q39, h⟩ := h
  refine L60 a0 FU z28 0 z29 q39 _ _ _ hP hD hS (lv_sub hl [1, 0] rfl) (fun H locs ls hP hD hS hl => ?_)
  refine lv_aload_n hx hb dX7_digest_81 rfl (lv_at hl 0 rfl) ?_
  refine lv_aload_n hx hb dX7_digest_82 rfl (lv_at hl 0 rfl) ?_
  replace h := bd h
  obtain ⟨_, q40, h⟩ := h
  replace h := bd h
  obtain ⟨z42, q41, h⟩ := h
  refine c_X7_mean ⟨hx, hb, hml, hown, hts⟩ hl.1 hK hP hD hA hS wd_1241 ⟨(Nat.le_of_ble_eq_true rfl), (Nat.le_of_ble_eq_true rfl)⟩ q41 q40 (Nat.le_of_ble_eq_true rfl) dX7_digest_83 ⟨(Nat.le_of_ble_eq_true rfl), (Nat.le_of_ble_eq_true rfl)⟩ (fun H locs hP hD hS => ?_)
  replace h := bd h
  obtain ⟨x44, q43, h⟩ := h
  refine c_Jxe99ae_doubleToLongBits_ccdee ⟨hx, hb, hml, hown, hts⟩ hl.1 hK hP hS wd_1259 ⟨(Nat.le_of_ble_eq_true rfl), (Nat.le_of_ble_eq_true rfl)⟩ q43 (Nat.le_of_ble_eq_true rfl) dX7_digest_86 ⟨(Nat.le_of_ble_eq_true rfl), (Nat.le_of_ble_eq_true rfl)⟩ (fun H locs hP hS => ?_)
  replace h := bd h
  obtain ⟨_, q45, h⟩ := h
  replace h := bd h
  obtain ⟨z47, q46, h⟩ := h
  refine c_X7_mix ⟨hx, hb, hml, hown, hts⟩ hl.1 hK hP hD hA hS wd_1250 ⟨(Nat.le_of_ble_eq_true rfl), (Nat.le_of_ble_eq_true rfl)⟩ q46 q45 (Nat.le_of_ble_eq_true rfl) dX7_digest_89 ⟨(Nat.le_of_ble_eq_true rfl), (Nat.le_of_ble_eq_true rfl)⟩ (fun H locs hP hD hS => ?_)
  refine lv_aload_n hx hb dX7_digest_92 rfl (lv_at hl 0 rfl) ?_
  refine lv_aload_n hx hb dX7_digest_93 rfl (lv_at hl 0 rfl) ?_
  replace h := bd h
  obtain ⟨x48, q49, h⟩ := h
  refine fg_6_3 hx hb hts hown hK hP wd_890 q49 dX7_digest_94 ?_
  refine lv_i2l (v := (Int32.toInt64 x48)) hx hb dX7_digest_97 rfl ?_
  replace h := bd h
  obtain ⟨_, q50, h⟩ := h
  replace h := bd h
  obtain ⟨z52, q51, h⟩ := h
  refine c_X7_mix ⟨hx, hb, hml, hown, hts⟩ hl.1 hK hP hD hA hS wd_1250 ⟨(Nat.le_of_ble_eq_true rfl), (Nat.le_of_ble_eq_true rfl)⟩ q51 q50 (Nat.le_of_ble_eq_true rfl) dX7_digest_98 ⟨(Nat.le_of_ble_eq_true rfl), (Nat.le_of_ble_eq_true rfl)⟩ (fun H locs hP hD hS => ?_)
  refine lv_iconst (v := 0) hx hb dX7_digest_101 (by decide) ?_
  refine lv_istore_n (lv' := [(1, .int 0), (0, .ref a0)]) hx hb dX7_digest_102 rfl hl (by decide) rfl (fun ls hl => ?_)
  have L103 : ∀ (y103_0 : Nat) (fu : Nat) (S103_ : St) (y103_1 : Int32) (res : St), f_X7_digest_L103 y103_0 fu S103_ y103_1 = some res → ∀ (H : Heap) (locs : List Loc) (ls : Array Slot), SP D cy S103_ H → (∀ a, S103_ a ≠ none → (dm S s.heap.size) a) → va_S (dm S s.heap.size) s.heap H locs → lv_has ls 2 [(0, .ref y103_0), (1, .int y103_1)] → (∀ (H : Heap) (locs : List Loc) (ls : Array Slot), SP D cy res H → (∀ a, res a ≠ none → (dm S s.heap.size) a) → va_S (dm S s.heap.size) s.heap H locs → lv_has ls 2 [(0, .ref y103_0)] → W p l e rm_X7_digest s m ([.ref a0] : List Value).toArray below meth c H locs 0 0 (MQ below (va_Ql (fun r' (_ : Unit) => r' = r) (fun _ t => PoS D cy S1 (dm S s.heap.size) t) (dm S s.heap.size)) ([.ref a0] : List Value).toArray s 0 0 (dm S s.heap.size)) (F0 m 128 ls [])) → W p l e rm_X7_digest s m ([.ref a0] : List Value).toArray below meth c H locs 0 0 (MQ below (va_Ql (fun r' (_ : Unit) => r' = r) (fun _ t => PoS D cy S1 (dm S s.heap.size) t) (dm S s.heap.size)) ([.ref a0] : List Value).toArray s 0 0 (dm S s.heap.size)) (F0 m 103 ls []) := by
    intro y103_0 fu
    induction fu with
    | zero =>
      intro S103_ y103_1 res h
      rw [f_X7_digest_L103] at h
      cases h
    | succ fu ih =>
      intro S103_ y103_1 res h H locs ls hP hD hS hl hexit
      rw [f_X7_digest_L103] at h
      refine lv_iload_n hx hb dX7_digest_103 rfl (lv_at hl 1 rfl) ?_
      refine lv_aload_n hx hb dX7_digest_104 rfl (lv_at hl 0 rfl) ?_
      replace h := bd h
      obtain ⟨x55, q56, h⟩ := h
      refine fg_6_3 hx hb hts hown hK hP wd_890 q56 dX7_digest_105 ?_
      refine lv_icmp_ge (tgt := 128) hx hb dX7_digest_108 (by decide) (fun c57 => ?_) (fun c57 => ?_)
      · replace h := ifp c57 h
        cases h
        exact hexit _ _ _ hP hD hS (lv_sub hl [0] rfl)
      · replace h := ifn c57 h
        refine lv_aload_n hx hb dX7_digest_111 rfl (lv_at hl 0 rfl) ?_
        refine lv_aload_n hx hb dX7_digest_112 rfl (lv_at hl 0 rfl) ?_
        replace h := bd h
        obtain ⟨x58, q59, h⟩ := h
        refine fg_6_4 hx hb hts hown hK hP wd_891 q59 dX7_digest_113 ?_
        refine lv_iload_n hx hb dX7_digest_116 rfl (lv_at hl 1 rfl) ?_
        replace h := bd h
        obtain ⟨x60, q61, h⟩ := h
        refine r_aI hx hb hK hP q61 dX7_digest_117 ?_
        refine lv_i2l (v := (Int32.toInt64 x60)) hx hb dX7_digest_118 rfl ?_
        replace h := bd h
        obtain ⟨_, q62, h⟩ := h
        replace h := bd h
        obtain ⟨z64, q63, h⟩ := h
        refine c_X7_mix ⟨hx, hb, hml, hown, hts⟩ hl.1 hK hP hD hA hS wd_1250 ⟨(Nat.le_of_ble_eq_true rfl), (Nat.le_of_ble_eq_true rfl)⟩ q63 q62 (Nat.le_of_ble_eq_true rfl) dX7_digest_119 ⟨(Nat.le_of_ble_eq_true rfl), (Nat.le_of_ble_eq_true rfl)⟩ (fun H locs hP hD hS => ?_)
        refine lv_iinc (v := (y103_1 + 1)) (lv' := [(1, .int (y103_1 + 1)), (0, .ref y103_0)]) hx hb dX7_digest_122 hl (k := 1) rfl rfl (by decide) rfl (fun ls hl => ?_)
        refine lv_goto (tgt := 103) hx hb dX7_digest_125 (by decide) ?_
        exact ih z64 (y103_1 + 1) _ h _ _ _ hP hD hS (lv_sub hl [1, 0] rfl) hexit
  replace h := bd h
  obtain ⟨z53, q65, h⟩ := h
  refine L103 a0 FU z52 0 z53 q65 _ _ _ hP hD hS (lv_sub hl [1, 0] rfl) (fun H locs ls hP hD hS hl => ?_)
  refine lv_aload_n hx hb dX7_digest_128 rfl (lv_at hl 0 rfl) ?_
  replace h := bd h
  obtain ⟨x66, q67, h⟩ := h
  refine fg_6_12 hx hb hts hown hK hP wd_899 q67 dX7_digest_129 ?_
  cases h
  exact e_lm hx hb hlocks hr hP hD hS (Nat.le_of_ble_eq_true rfl) (Nat.le_of_ble_eq_true rfl) dX7_digest_132
set_option maxRecDepth 100000 in
theorem c_X7_digest {p : Program} {l : Launch} {e : Env} {R : Room} {s : State} {m : MethodId} {args : Array Value} {below : List Frame} {meth : Method} {c : Code} {H : Heap} {locs : List Loc} {cells slots : Nat} {Q : State → Prop} {cc : ByteArray} {pc index nL : Nat} {ls : Array Slot} {rest : List Value} {D : va_G} {cy : Nat → ClassId} {A0 : Nat → Prop} {S : St} {H0 : Heap} {own : String} {u : Unit} {a0 : Nat} {r : Int64} {S1 : St}  (hF : CallFix p m c cc nL s args ALLW own) (hsz : ls.size = nL) (hK : va_K D vwCl (tyL cy) s) (hP : SP D cy S H) (hD : ∀ a, S a ≠ none → A0 a) (hA : ∀ q, H0.size ≤ q → A0 q) (hS : va_S A0 H0 H locs) (hk : Cond.methodLink own index yX7_digest ∈ ALLW) (hR : rm_X7_digest.frames + 1 ≤ R.frames ∧ 8 + (2 + 11) + rm_X7_digest.locals ≤ R.locals) (h : f_X7_digest S a0 = some (r, S1)) (hc : oO S a0 6 = some u) (hW : (rest.map fun v => v.category).sum ≤ 8) (hdg : decode cc pc = .ok (.invokevirtual index, 3)) (hf : cells + 0 ≤ R.cells ∧ slots + 0 ≤ R.slots)
    (kk : ∀ (H1 : Heap) (locs1 : List Loc), SP D cy S1 H1 → (∀ a, S1 a ≠ none → A0 a) → va_S A0 H0 H1 locs1 → W p l e R s m args below meth c H1 locs1 (cells + 0) (slots + 0) Q (F0 m (pc + 3) ls (.long r :: rest))) : W p l e R s m args below meth c H locs cells slots Q (F0 m pc ls (.ref a0 :: rest)) := by
  exact k_lVm (As := []) hF hsz (m_X7_digest l D cy H.size S a0 r S1 h) (cwV_of (n := 0) hF.2.2.2.2 hk wd_1246 wd_1247 wd_75 wd_1248 rfl rfl (by decide +kernel) hR) rfl hK hP hD hA hS (ci := 6) hc rfl hW rfl hdg hf kk
