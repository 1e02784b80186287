/-- VowBlocks$RowText.<init>()V -/
def f_X5_init (S : St) (sz : Nat) (a0 : Nat) : Option (St × Nat) :=
  (pR (va_up S sz (some (arI 60 (fun _ => 0)))) a0 4 0 sz).bind fun Z1 =>
  (pI Z1 a0 4 1 0).bind fun Z3 =>
  (pI Z3 a0 4 2 0).bind fun Z5 =>
  (pI Z5 a0 4 3 0).bind fun Z7 =>
  (pI Z7 a0 4 4 1).bind fun Z9 =>
  some (Z9, (sz + 1))
abbrev rm_X5_init : Room := { frames := 1, cells := 1, slots := 60, locals := 12 }
set_option maxHeartbeats 4000000 in
set_option maxRecDepth 100000 in
theorem m_X5_init (l : Launch) (D : va_G) (cy : Nat → ClassId) (sz : Nat) (S : St) (a0 : Nat) (S1 : St) (sz1 : Nat) (h : f_X5_init S sz a0 = some (S1, sz1)) : Met l yX5_init (wsA yX5_init cX5_init 1 none) rm_X5_init (va_Pc [.ref a0] (PNA D cy S sz)) (va_Qv (fun _ : Unit => True) (fun _ t => t.heap.size = sz1 ∧ PoS D cy S1 (dm S sz) t) (dm S sz)) 1 60 (dm S sz) := by
  refine Met.ofW (cc := cX5_init) (maxL := 1) (ret := none) (by decide) rfl ?_
  intro p e s m args below meth c s₁ B hml hv
  obtain ⟨rfl, hz, hP, hK, hE⟩ := hv
  have hx := B.exec
  have hb := B.bytes
  have hr := B.returns
  have hts9 := atoms_spec (ws := wsA yX5_init cX5_init 1 none) B.pre
  have hts : ∀ w ∈ ALLW, w.before _ s = true := fun w h => hts9 w (List.mem_cons_of_mem _ h)
  have hown : s.vm.findClass RX5 = some m.cls := findClass_of_methodNamed B.named
  have hlocks := B.notSynchronized
  have hin : meth.name = "<init>" := (name_of_methodNamed B.named B.method).1
  have hD : ∀ a, S a ≠ none → dm S sz a := fun a h => Or.inl h
  have hA : ∀ q : Nat, s.heap.size ≤ q → dm S sz q := fun q h => Or.inr (hz ▸ h)
  have hS : va_S (dm S sz) s.heap s.heap [] := va_S.rf
  have hl := lv_entry [.ref a0] (n := 1) (Nat.le_of_ble_eq_true rfl)
  rw [lg_entry_eq]
  generalize (lg_sl [.ref a0] ++ List.replicate (1 - (lg_sl [.ref a0]).length) Slot.unset).toArray = ls at hl ⊢
  have hl : lv_has ls 1 [(0, .ref a0)] := hl
  rw [f_X5_init] at h
  refine lv_aload_n hx hb dX5_init_0 rfl (lv_at hl 0 rfl) ?_
  refine W.objInit hx hb hown (hts _ wd_195) (hts _ wd_91) (hts _ wd_92) rfl (hl.1.trans hml.symm) rfl dX5_init_1 (Nat.le_of_ble_eq_true rfl) (Nat.le_of_ble_eq_true rfl) ?_
  refine lv_aload_n hx hb dX5_init_4 rfl (lv_at hl 0 rfl) ?_
  refine lv_bipush (v := 60) hx hb dX5_init_5 (by decide) ?_
  refine r_newI hx hb (hts _ wd_119) hK hP hD hS hA (N := 60) (by decide) (by decide) (by decide) (Nat.le_of_ble_eq_true rfl) (Nat.le_of_ble_eq_true rfl) dX5_init_7 hz (fun H hz hP hD hS => ?_)
  replace h := bd h
  obtain ⟨Z1, q2, h⟩ := h
  refine fp_4_0 hx hb hts hown hK hP hD hS hin rfl wd_196 q2 dX5_init_9 (fun H locs hz9 hP hD hS => ?_)
  replace hz := hz9.trans hz
  refine lv_aload_n hx hb dX5_init_12 rfl (lv_at hl 0 rfl) ?_
  refine lv_iconst (v := 0) hx hb dX5_init_13 (by decide) ?_
  replace h := bd h
  obtain ⟨Z3, q4, h⟩ := h
  refine fp_4_1 hx hb hts hown hK hP hD hS wd_197 q4 dX5_init_14 (fun H locs hz9 hP hD hS => ?_)
  replace hz := hz9.trans hz
  refine lv_aload_n hx hb dX5_init_17 rfl (lv_at hl 0 rfl) ?_
  refine lv_iconst (v := 0) hx hb dX5_init_18 (by decide) ?_
  replace h := bd h
  obtain ⟨Z5, q6, h⟩ := h
  refine fp_4_2 hx hb hts hown hK hP hD hS wd_198 q6 dX5_init_19 (fun H locs hz9 hP hD hS => ?_)
  replace hz := hz9.trans hz
  refine lv_aload_n hx hb dX5_init_22 rfl (lv_at hl 0 rfl) ?_
  refine lv_iconst (v := 0) hx hb dX5_init_23 (by decide) ?_
  replace h := bd h
  obtain ⟨Z7, q8, h⟩ := h
  refine fp_4_3 hx hb hts hown hK hP hD hS wd_199 q8 dX5_init_24 (fun H locs hz9 hP hD hS => ?_)
  replace hz := hz9.trans hz
  refine lv_aload_n hx hb dX5_init_27 rfl (lv_at hl 0 rfl) ?_
  refine lv_iconst (v := 1) hx hb dX5_init_28 (by decide) ?_
  replace h := bd h
  obtain ⟨Z9, q10, h⟩ := h
  refine fp_4_4 hx hb hts hown hK hP hD hS wd_200 q10 dX5_init_29 (fun H locs hz9 hP hD hS => ?_)
  replace hz := hz9.trans hz
  cases h
  exact e_vA hx hb hlocks hr hP hD hz hS (Nat.le_of_ble_eq_true rfl) (Nat.le_of_ble_eq_true rfl) dX5_init_32
set_option maxRecDepth 100000 in
theorem c_X5_init_n {p : Program} {l : Launch} {e : Env} {R : Room} {s : State} {m : MethodId} {args : Array Value} {below : List Frame} {meth : Method} {c : Code} {H : Heap} {locs : List Loc} {cells slots : Nat} {Q : State → Prop} {cc : ByteArray} {pc index nL : Nat} {ls : Array Slot} {rest : List Value} {D : va_G} {cy : Nat → ClassId} {A0 : Nat → Prop} {S : St} {H0 : Heap} {own : String} {a0 : Nat} {S1 : St} {sz1 szv : Nat}  (hF : CallFix p m c cc nL s args ALLW own) (hsz : ls.size = nL) (hK : va_K D vwCl (tyL cy) s) (hP : SP D cy S H) (hD : ∀ a, S a ≠ none → A0 a) (hA : ∀ q, H0.size ≤ q → A0 q) (hS : va_S A0 H0 H locs) (hE : NWA s) (hk : va_Nw (.methodLinkNest own index yX5_init "VowBlocks") s) (hR : rm_X5_init.frames + 1 ≤ R.frames ∧ 8 + (1 + 11) + rm_X5_init.locals ≤ R.locals) (h : f_X5_init S szv a0 = some (S1, sz1)) (hz : H.size = szv) (hW : (rest.map fun v => v.category).sum ≤ 8) (hdg : decode cc pc = .ok (.invokespecial index, 3)) (hf : cells + 1 ≤ R.cells ∧ slots + 60 ≤ R.slots)
    (kk : ∀ (H1 : Heap) (locs1 : List Loc), H1.size = sz1 → SP D cy S1 H1 → (∀ a, S1 a ≠ none → A0 a) → va_S A0 H0 H1 locs1 → W p l e R s m args below meth c H1 locs1 (cells + 1) (slots + 60) Q (F0 m (pc + 3) ls (rest))) : W p l e R s m args below meth c H locs cells slots Q (F0 m pc ls (.ref a0 :: rest)) := by
  subst hz
  exact k_N (As := []) (host := "VowBlocks") hF hsz (m_X5_init l D cy H.size S a0 S1 sz1 h) (cwN_of (n := 0) hF.2.2.2.2 hk wd_193 wd_74 wd_194 rfl rfl rfl (by decide +kernel) hR) rfl hK hP hD hA hS hE hW rfl hdg hf kk
/-- VowBlocks$RowText.partIsWhole()Z -/
def f_X5_partIsWhole (S : St) (a0 : Nat) : Option (Int32) :=
  (gI S a0 4 2).bind fun x1 =>
  (
    if x1 = 1 then
      some 1
    else
      (gI S a0 4 2).bind fun x5 =>
      if x5 = 3 then
        some 1
      else
        some 0
  : Option (Int32)).bind fun t3 =>
  (zz t3).bind fun _ =>
  some t3
abbrev rm_X5_partIsWhole : Room := { frames := 0, cells := 0, slots := 0, locals := 0 }
set_option maxHeartbeats 4000000 in
set_option maxRecDepth 100000 in
theorem m_X5_partIsWhole (l : Launch) (D : va_G) (cy : Nat → ClassId) (S : St) (a0 : Nat) (r : Int32) (h : f_X5_partIsWhole S a0 = some r) : Met l yX5_partIsWhole (wsA yX5_partIsWhole cX5_partIsWhole 1 (some .boolean)) rm_X5_partIsWhole (va_Pc [.ref a0] (PS D cy S)) (va_Qi (fun r' (_ : Unit) => r' = r) (fun _ _ => True) noA) 0 0 noA := by
  refine Met.ofW (cc := cX5_partIsWhole) (maxL := 1) (ret := (some .boolean)) (by decide) rfl ?_
  intro p e s m args below meth c s₁ B hml hv
  obtain ⟨rfl, hP, hK⟩ := hv
  have hx := B.exec
  have hb := B.bytes
  have hr := B.returns
  have hts9 := atoms_spec (ws := wsA yX5_partIsWhole cX5_partIsWhole 1 (some .boolean)) B.pre
  have hts : ∀ w ∈ ALLW, w.before _ s = true := fun w h => hts9 w (List.mem_cons_of_mem _ h)
  have hown : s.vm.findClass RX5 = some m.cls := findClass_of_methodNamed B.named
  have hlocks := B.notSynchronized
  have hS : va_S noA s.heap s.heap [] := va_S.rf
  have hl := lv_entry [.ref a0] (n := 1) (Nat.le_of_ble_eq_true rfl)
  rw [lg_entry_eq]
  generalize (lg_sl [.ref a0] ++ List.replicate (1 - (lg_sl [.ref a0]).length) Slot.unset).toArray = ls at hl ⊢
  have hl : lv_has ls 1 [(0, .ref a0)] := hl
  rw [f_X5_partIsWhole] at h
  refine lv_aload_n hx hb dX5_partIsWhole_0 rfl (lv_at hl 0 rfl) ?_
  replace h := bd h
  obtain ⟨x1, q2, h⟩ := h
  refine fg_4_2 hx hb hts hown hK hP wd_198 q2 dX5_partIsWhole_1 ?_
  refine lv_iconst (v := 1) hx hb dX5_partIsWhole_4 (by decide) ?_
  replace h := bd h
  obtain ⟨t3, ht, h⟩ := h
  have K3 : ∀ (H : Heap) (locs : List Loc) (ls : Array Slot), SP D cy S H → va_S noA s.heap H locs → lv_has ls 1 [] → W p l e rm_X5_partIsWhole s m ([.ref a0] : List Value).toArray below meth c H locs 0 0 (MQ below (va_Qi (fun r' (_ : Unit) => r' = r) (fun _ _ => True) noA) ([.ref a0] : List Value).toArray s 0 0 noA) (F0 m 21 ls [.int t3]) := by
    intro H locs ls hP hS hl
    replace h := bd h
    obtain ⟨_, q8, h⟩ := h
    cases h
    exact e_zp hx hb hlocks (zz_spec q8) hr hS (Nat.le_of_ble_eq_true rfl) (Nat.le_of_ble_eq_true rfl) dX5_partIsWhole_21
  replace h := ht
  refine lv_icmp_eq (tgt := 16) hx hb dX5_partIsWhole_5 (by decide) (fun c4 => ?_) (fun c4 => ?_)
  · replace h := ifp c4 h
    refine lv_iconst (v := 1) hx hb dX5_partIsWhole_16 (by decide) ?_
    refine lv_goto (tgt := 21) hx hb dX5_partIsWhole_17 (by decide) ?_
    cases h
    exact K3 _ _ _ hP hS (lv_sub hl [] rfl)
  · replace h := ifn c4 h
    refine lv_aload_n hx hb dX5_partIsWhole_8 rfl (lv_at hl 0 rfl) ?_
    replace h := bd h
    obtain ⟨x5, q6, h⟩ := h
    refine fg_4_2 hx hb hts hown hK hP wd_198 q6 dX5_partIsWhole_9 ?_
    refine lv_iconst (v := 3) hx hb dX5_partIsWhole_12 (by decide) ?_
    refine lv_icmp_ne (tgt := 20) hx hb dX5_partIsWhole_13 (by decide) (fun c7 => ?_) (fun c7 => ?_)
    · replace h := ifn c7 h
      refine lv_iconst (v := 0) hx hb dX5_partIsWhole_20 (by decide) ?_
      cases h
      exact K3 _ _ _ hP hS (lv_sub hl [] rfl)
    · replace h := ifp c7 h
      refine lv_iconst (v := 1) hx hb dX5_partIsWhole_16 (by decide) ?_
      refine lv_goto (tgt := 21) hx hb dX5_partIsWhole_17 (by decide) ?_
      cases h
      exact K3 _ _ _ hP hS (lv_sub hl [] rfl)
set_option maxRecDepth 100000 in
theorem c_X5_partIsWhole {p : Program} {l : Launch} {e : Env} {R : Room} {s : State} {m : MethodId} {args : Array Value} {below : List Frame} {meth : Method} {c : Code} {H : Heap} {locs : List Loc} {cells slots : Nat} {Q : State → Prop} {cc : ByteArray} {pc index nL : Nat} {ls : Array Slot} {rest : List Value} {D : va_G} {cy : Nat → ClassId} {A0 : Nat → Prop} {S : St} {H0 : Heap} {own : String} {u : Unit} {a0 : Nat} {r : Int32}  (hF : CallFix p m c cc nL s args ALLW own) (hsz : ls.size = nL) (hK : va_K D vwCl (tyL cy) s) (hP : SP D cy S H) (hS : va_S A0 H0 H locs) (hk : Cond.methodLink own index yX5_partIsWhole ∈ ALLW) (hR : rm_X5_partIsWhole.frames + 1 ≤ R.frames ∧ 8 + (1 + 11) + rm_X5_partIsWhole.locals ≤ R.locals) (h : f_X5_partIsWhole S a0 = some r) (hc : oO S a0 4 = some u) (hW : (rest.map fun v => v.category).sum ≤ 8) (hdg : decode cc pc = .ok (.invokevirtual index, 3)) (hf : cells + 0 ≤ R.cells ∧ slots + 0 ≤ R.slots)
    (kk : ∀ (H1 : Heap) (locs1 : List Loc), SP D cy S H1 → va_S A0 H0 H1 locs1 → W p l e R s m args below meth c H1 locs1 (cells + 0) (slots + 0) Q (F0 m (pc + 3) ls (.int r :: rest))) : W p l e R s m args below meth c H locs cells slots Q (F0 m pc ls (.ref a0 :: rest)) := by
  exact k_iVp (As := []) hF hsz (m_X5_partIsWhole l D cy S a0 r h) (cwV_of (n := 0) hF.2.2.2.2 hk wd_257 wd_2 wd_74 wd_258 rfl rfl (by decide +kernel) hR) rfl hK hP hS (ci := 4) hc rfl hW rfl hdg hf kk
/-- VowBlocks$RowText.endPart(LVowBlocks$Row;)Z -/
def f_X5_endPart (S : St) (a0 : Nat) (a1 : Nat) : Option (Int32 × St) :=
  (oO S a0 4).bind fun _ =>
  (f_X5_partIsWhole S a0).bind fun x3 =>
  (
    if x3 = 0 then
      some (0, S)
    else
      (gI S a0 4 3).bind fun x6 =>
      (gI S a0 4 4).bind fun x8 =>
      (oO S a1 3).bind fun _ =>
      (f_X4_push S a1 x6 x8).bind fun z12 =>
      if z12.1 = 0 then
        some (0, z12.2)
      else
        some (1, z12.2)
  : Option (Int32 × St)).bind fun t4 =>
  (zz t4.1).bind fun _ =>
  some (t4.1, t4.2)
abbrev rm_X5_endPart : Room := { frames := 2, cells := 0, slots := 0, locals := 44 }
set_option maxHeartbeats 4000000 in
set_option maxRecDepth 100000 in
theorem m_X5_endPart (l : Launch) (D : va_G) (cy : Nat → ClassId) (sz : Nat) (S : St) (a0 : Nat) (a1 : Nat) (r : Int32) (S1 : St) (h : f_X5_endPart S a0 a1 = some (r, S1)) : Met l yX5_endPart (wsA yX5_endPart cX5_endPart 2 (some .boolean)) rm_X5_endPart (va_Pc [.ref a0, .ref a1] (PN D cy S sz)) (va_Qi (fun r' (_ : Unit) => r' = r) (fun _ t => PoS D cy S1 (dm S sz) t) (dm S sz)) 0 0 (dm S sz) := by
  refine Met.ofW (cc := cX5_endPart) (maxL := 2) (ret := (some .boolean)) (by decide) rfl ?_
  intro p e s m args below meth c s₁ B hml hv
  obtain ⟨rfl, hsz, hP, hK⟩ := hv
  have hx := B.exec
  have hb := B.bytes
  have hr := B.returns
  have hts9 := atoms_spec (ws := wsA yX5_endPart cX5_endPart 2 (some .boolean)) B.pre
  have hts : ∀ w ∈ ALLW, w.before _ s = true := fun w h => hts9 w (List.mem_cons_of_mem _ h)
  have hown : s.vm.findClass RX5 = some m.cls := findClass_of_methodNamed B.named
  have hlocks := B.notSynchronized
  subst hsz
  have hD : ∀ a, S a ≠ none → dm S s.heap.size a := fun a h => Or.inl h
  have hA : ∀ q : Nat, s.heap.size ≤ q → dm S s.heap.size q := fun q h => Or.inr h
  have hS : va_S (dm S s.heap.size) s.heap s.heap [] := va_S.rf
  have hl := lv_entry [.ref a0, .ref a1] (n := 2) (Nat.le_of_ble_eq_true rfl)
  rw [lg_entry_eq]
  generalize (lg_sl [.ref a0, .ref a1] ++ List.replicate (2 - (lg_sl [.ref a0, .ref a1]).length) Slot.unset).toArray = ls at hl ⊢
  have hl : lv_has ls 2 [(0, .ref a0), (1, .ref a1)] := hl
  rw [f_X5_endPart] at h
  refine lv_aload_n hx hb dX5_endPart_0 rfl (lv_at hl 0 rfl) ?_
  replace h := bd h
  obtain ⟨_, q1, h⟩ := h
  replace h := bd h
  obtain ⟨x3, q2, h⟩ := h
  refine c_X5_partIsWhole ⟨hx, hb, hml, hown, hts⟩ hl.1 hK hP hS wd_255 ⟨(Nat.le_of_ble_eq_true rfl), (Nat.le_of_ble_eq_true rfl)⟩ q2 q1 (Nat.le_of_ble_eq_true rfl) dX5_endPart_1 ⟨(Nat.le_of_ble_eq_true rfl), (Nat.le_of_ble_eq_true rfl)⟩ (fun H locs hP hS => ?_)
  replace h := bd h
  obtain ⟨t4, ht, h⟩ := h
  have K4 : ∀ (H : Heap) (locs : List Loc) (ls : Array Slot), SP D cy t4.2 H → (∀ a, t4.2 a ≠ none → (dm S s.heap.size) a) → va_S (dm S s.heap.size) s.heap H locs → lv_has ls 2 [] → W p l e rm_X5_endPart s m ([.ref a0, .ref a1] : List Value).toArray below meth c H locs 0 0 (MQ below (va_Qi (fun r' (_ : Unit) => r' = r) (fun _ t => PoS D cy S1 (dm S s.heap.size) t) (dm S s.heap.size)) ([.ref a0, .ref a1] : List Value).toArray s 0 0 (dm S s.heap.size)) (F0 m 27 ls [.int t4.1]) := by
    intro H locs ls hP hD hS hl
    replace h := bd h
    obtain ⟨_, q14, h⟩ := h
    cases h
    exact e_zm hx hb hlocks (zz_spec q14) hr hP hD hS (Nat.le_of_ble_eq_true rfl) (Nat.le_of_ble_eq_true rfl) dX5_endPart_27
  replace h := ht
  refine lv_if_eq (tgt := 26) hx hb dX5_endPart_4 (by decide) (fun c5 => ?_) (fun c5 => ?_)
  · replace h := ifp c5 h
    refine lv_iconst (v := 0) hx hb dX5_endPart_26 (by decide) ?_
    cases h
    exact K4 _ _ _ hP hD hS (lv_sub hl [] rfl)
  · replace h := ifn c5 h
    refine lv_aload_n hx hb dX5_endPart_7 rfl (lv_at hl 1 rfl) ?_
    refine lv_aload_n hx hb dX5_endPart_8 rfl (lv_at hl 0 rfl) ?_
    replace h := bd h
    obtain ⟨x6, q7, h⟩ := h
    refine fg_4_3 hx hb hts hown hK hP wd_199 q7 dX5_endPart_9 ?_
    refine lv_aload_n hx hb dX5_endPart_12 rfl (lv_at hl 0 rfl) ?_
    replace h := bd h
    obtain ⟨x8, q9, h⟩ := h
    refine fg_4_4 hx hb hts hown hK hP wd_200 q9 dX5_endPart_13 ?_
    replace h := bd h
    obtain ⟨_, q10, h⟩ := h
    replace h := bd h
    obtain ⟨z12, q11, h⟩ := h
    refine c_X4_push ⟨hx, hb, hml, hown, hts⟩ hl.1 hK hP hD hA hS wd_628 ⟨(Nat.le_of_ble_eq_true rfl), (Nat.le_of_ble_eq_true rfl)⟩ q11 q10 (Nat.le_of_ble_eq_true rfl) dX5_endPart_16 ⟨(Nat.le_of_ble_eq_true rfl), (Nat.le_of_ble_eq_true rfl)⟩ (fun H locs hP hD hS => ?_)
    refine lv_if_eq (tgt := 26) hx hb dX5_endPart_19 (by decide) (fun c13 => ?_) (fun c13 => ?_)
    · replace h := ifp c13 h
      refine lv_iconst (v := 0) hx hb dX5_endPart_26 (by decide) ?_
      cases h
      exact K4 _ _ _ hP hD hS (lv_sub hl [] rfl)
    · replace h := ifn c13 h
      refine lv_iconst (v := 1) hx hb dX5_endPart_22 (by decide) ?_
      refine lv_goto (tgt := 27) hx hb dX5_endPart_23 (by decide) ?_
      cases h
      exact K4 _ _ _ hP hD hS (lv_sub hl [] rfl)
set_option maxRecDepth 100000 in
theorem c_X5_endPart {p : Program} {l : Launch} {e : Env} {R : Room} {s : State} {m : MethodId} {args : Array Value} {below : List Frame} {meth : Method} {c : Code} {H : Heap} {locs : List Loc} {cells slots : Nat} {Q : State → Prop} {cc : ByteArray} {pc index nL : Nat} {ls : Array Slot} {rest : List Value} {D : va_G} {cy : Nat → ClassId} {A0 : Nat → Prop} {S : St} {H0 : Heap} {own : String} {u : Unit} {a0 : Nat} {a1 : Nat} {r : Int32} {S1 : St}  (hF : CallFix p m c cc nL s args ALLW own) (hsz : ls.size = nL) (hK : va_K D vwCl (tyL cy) s) (hP : SP D cy S H) (hD : ∀ a, S a ≠ none → A0 a) (hA : ∀ q, H0.size ≤ q → A0 q) (hS : va_S A0 H0 H locs) (hk : Cond.methodLink own index yX5_endPart ∈ ALLW) (hR : rm_X5_endPart.frames + 1 ≤ R.frames ∧ 8 + (2 + 11) + rm_X5_endPart.locals ≤ R.locals) (h : f_X5_endPart S a0 a1 = some (r, S1)) (hc : oO S a0 4 = some u) (hW : (rest.map fun v => v.category).sum ≤ 8) (hdg : decode cc pc = .ok (.invokevirtual index, 3)) (hf : cells + 0 ≤ R.cells ∧ slots + 0 ≤ R.slots)
    (kk : ∀ (H1 : Heap) (locs1 : List Loc), SP D cy S1 H1 → (∀ a, S1 a ≠ none → A0 a) → va_S A0 H0 H1 locs1 → W p l e R s m args below meth c H1 locs1 (cells + 0) (slots + 0) Q (F0 m (pc + 3) ls (.int r :: rest))) : W p l e R s m args below meth c H locs cells slots Q (F0 m pc ls (.ref a1 :: .ref a0 :: rest)) := by
  exact k_iVm (As := [.ref a1]) hF hsz (m_X5_endPart l D cy H.size S a0 a1 r S1 h) (cwV_of (n := 1) hF.2.2.2.2 hk wd_626 wd_15 wd_74 wd_627 rfl rfl (by decide +kernel) hR) rfl hK hP hD hA hS (ci := 4) hc rfl hW rfl hdg hf kk
/-- VowBlocks$RowText.acceptDigit(I)Z -/
def f_X5_acceptDigit (S : St) (a0 : Nat) (a1 : Int32) : Option (Int32 × St) :=
  (gI S a0 4 2).bind fun x1 =>
  if x1 = 0 then
    (pI S a0 4 2 1).bind fun Z16 =>
    (pI Z16 a0 4 3 a1).bind fun Z18 =>
    (pI Z18 a0 4 4 1).bind fun Z20 =>
    some (1, Z20)
  else
    if x1 = 1 then
      (gI S a0 4 3).bind fun x22 =>
      (pI S a0 4 3 ((10 * x22) + a1)).bind fun Z24 =>
      (gI Z24 a0 4 3).bind fun x26 =>
      (
        if x26 < 10 then
          some 0
        else
          (gI Z24 a0 4 3).bind fun x30 =>
          if 255 < x30 then
            some 0
          else
            some 1
      : Option (Int32)).bind fun t28 =>
      (zz t28).bind fun _ =>
      some (t28, Z24)
    else
      if x1 = 2 then
        (pI S a0 4 2 3).bind fun Z34 =>
        (pI Z34 a0 4 4 a1).bind fun Z36 =>
        (gI Z36 a0 4 4).bind fun x38 =>
        (
          if x38 < 1 then
            some 0
          else
            some 1
        : Option (Int32)).bind fun t40 =>
        (zz t40).bind fun _ =>
        some (t40, Z36)
      else
        (gI S a0 4 4).bind fun x6 =>
        (pI S a0 4 4 ((10 * x6) + a1)).bind fun Z8 =>
        (gI Z8 a0 4 4).bind fun x10 =>
        (
          if 24 < x10 then
            some 0
          else
            some 1
        : Option (Int32)).bind fun t12 =>
        (zz t12).bind fun _ =>
        some (t12, Z8)
abbrev rm_X5_acceptDigit : Room := { frames := 0, cells := 0, slots := 0, locals := 0 }
set_option maxHeartbeats 4000000 in
set_option maxRecDepth 100000 in
theorem m_X5_acceptDigit (l : Launch) (D : va_G) (cy : Nat → ClassId) (sz : Nat) (S : St) (a0 : Nat) (a1 : Int32) (r : Int32) (S1 : St) (h : f_X5_acceptDigit S a0 a1 = some (r, S1)) : Met l yX5_acceptDigit (wsA yX5_acceptDigit cX5_acceptDigit 2 (some .boolean)) rm_X5_acceptDigit (va_Pc [.ref a0, .int a1] (PN D cy S sz)) (va_Qi (fun r' (_ : Unit) => r' = r) (fun _ t => PoS D cy S1 (dm S sz) t) (dm S sz)) 0 0 (dm S sz) := by
  refine Met.ofW (cc := cX5_acceptDigit) (maxL := 2) (ret := (some .boolean)) (by decide) rfl ?_
  intro p e s m args below meth c s₁ B hml hv
  obtain ⟨rfl, hsz, hP, hK⟩ := hv
  have hx := B.exec
  have hb := B.bytes
  have hr := B.returns
  have hts9 := atoms_spec (ws := wsA yX5_acceptDigit cX5_acceptDigit 2 (some .boolean)) B.pre
  have hts : ∀ w ∈ ALLW, w.before _ s = true := fun w h => hts9 w (List.mem_cons_of_mem _ h)
  have hown : s.vm.findClass RX5 = some m.cls := findClass_of_methodNamed B.named
  have hlocks := B.notSynchronized
  subst hsz
  have hD : ∀ a, S a ≠ none → dm S s.heap.size a := fun a h => Or.inl h
  have hA : ∀ q : Nat, s.heap.size ≤ q → dm S s.heap.size q := fun q h => Or.inr h
  have hS : va_S (dm S s.heap.size) s.heap s.heap [] := va_S.rf
  have hl := lv_entry [.ref a0, .int a1] (n := 2) (Nat.le_of_ble_eq_true rfl)
  rw [lg_entry_eq]
  generalize (lg_sl [.ref a0, .int a1] ++ List.replicate (2 - (lg_sl [.ref a0, .int a1]).length) Slot.unset).toArray = ls at hl ⊢
  have hl : lv_has ls 2 [(0, .ref a0), (1, .int a1)] := hl
  rw [f_X5_acceptDigit] at h
  refine lv_aload_n hx hb dX5_acceptDigit_0 rfl (lv_at hl 0 rfl) ?_
  replace h := bd h
  obtain ⟨x1, q2, h⟩ := h
  refine fg_4_2 hx hb hts hown hK hP wd_198 q2 dX5_acceptDigit_1 ?_
  by_cases c3 : x1 = 0
  · replace h := ifp c3 h
    refine lv_tableIn (off := 28) (tgt := 32) hx hb dX5_acceptDigit_4 (by rw [c3]; decide) (by rw [c3]; decide) (by rw [c3]; rfl) (by decide) ?_
    refine lv_aload_n hx hb dX5_acceptDigit_32 rfl (lv_at hl 0 rfl) ?_
    refine lv_iconst (v := 1) hx hb dX5_acceptDigit_33 (by decide) ?_
    replace h := bd h
    obtain ⟨Z16, q17, h⟩ := h
    refine fp_4_2 hx hb hts hown hK hP hD hS wd_198 q17 dX5_acceptDigit_34 (fun H locs hz9 hP hD hS => ?_)
    refine lv_aload_n hx hb dX5_acceptDigit_37 rfl (lv_at hl 0 rfl) ?_
    refine lv_iload_n hx hb dX5_acceptDigit_38 rfl (lv_at hl 1 rfl) ?_
    replace h := bd h
    obtain ⟨Z18, q19, h⟩ := h
    refine fp_4_3 hx hb hts hown hK hP hD hS wd_199 q19 dX5_acceptDigit_39 (fun H locs hz9 hP hD hS => ?_)
    refine lv_aload_n hx hb dX5_acceptDigit_42 rfl (lv_at hl 0 rfl) ?_
    refine lv_iconst (v := 1) hx hb dX5_acceptDigit_43 (by decide) ?_
    replace h := bd h
    obtain ⟨Z20, q21, h⟩ := h
    refine fp_4_4 hx hb hts hown hK hP hD hS wd_200 q21 dX5_acceptDigit_44 (fun H locs hz9 hP hD hS => ?_)
    refine lv_iconst (v := 1) hx hb dX5_acceptDigit_47 (by decide) ?_
    cases h
    exact e_zm hx hb hlocks (by decide) hr hP hD hS (Nat.le_of_ble_eq_true rfl) (Nat.le_of_ble_eq_true rfl) dX5_acceptDigit_48
  · replace h := ifn c3 h
    by_cases c4 : x1 = 1
    · replace h := ifp c4 h
      refine lv_tableIn (off := 45) (tgt := 49) hx hb dX5_acceptDigit_4 (by rw [c4]; decide) (by rw [c4]; decide) (by rw [c4]; rfl) (by decide) ?_
      refine lv_aload_n hx hb dX5_acceptDigit_49 rfl (lv_at hl 0 rfl) ?_
      refine lv_bipush (v := 10) hx hb dX5_acceptDigit_50 (by decide) ?_
      refine lv_aload_n hx hb dX5_acceptDigit_52 rfl (lv_at hl 0 rfl) ?_
      replace h := bd h
      obtain ⟨x22, q23, h⟩ := h
      refine fg_4_3 hx hb hts hown hK hP wd_199 q23 dX5_acceptDigit_53 ?_
      refine lv_imul hx hb dX5_acceptDigit_56 ?_
      refine lv_iload_n hx hb dX5_acceptDigit_57 rfl (lv_at hl 1 rfl) ?_
      refine lv_iadd hx hb dX5_acceptDigit_58 ?_
      replace h := bd h
      obtain ⟨Z24, q25, h⟩ := h
      refine fp_4_3 hx hb hts hown hK hP hD hS wd_199 q25 dX5_acceptDigit_59 (fun H locs hz9 hP hD hS => ?_)
      refine lv_aload_n hx hb dX5_acceptDigit_62 rfl (lv_at hl 0 rfl) ?_
      replace h := bd h
      obtain ⟨x26, q27, h⟩ := h
      refine fg_4_3 hx hb hts hown hK hP wd_199 q27 dX5_acceptDigit_63 ?_
      refine lv_bipush (v := 10) hx hb dX5_acceptDigit_66 (by decide) ?_
      replace h := bd h
      obtain ⟨t28, ht, h⟩ := h
      have K28 : ∀ (H : Heap) (locs : List Loc) (ls : Array Slot), SP D cy Z24 H → (∀ a, Z24 a ≠ none → (dm S s.heap.size) a) → va_S (dm S s.heap.size) s.heap H locs → lv_has ls 2 [] → W p l e rm_X5_acceptDigit s m ([.ref a0, .int a1] : List Value).toArray below meth c H locs 0 0 (MQ below (va_Qi (fun r' (_ : Unit) => r' = r) (fun _ t => PoS D cy S1 (dm S s.heap.size) t) (dm S s.heap.size)) ([.ref a0, .int a1] : List Value).toArray s 0 0 (dm S s.heap.size)) (F0 m 86 ls [.int t28]) := by
        intro H locs ls hP hD hS hl
        replace h := bd h
        obtain ⟨_, q33, h⟩ := h
        cases h
        exact e_zm hx hb hlocks (zz_spec q33) hr hP hD hS (Nat.le_of_ble_eq_true rfl) (Nat.le_of_ble_eq_true rfl) dX5_acceptDigit_86
      replace h := ht
      refine lv_icmp_lt (tgt := 85) hx hb dX5_acceptDigit_68 (by decide) (fun c29 => ?_) (fun c29 => ?_)
      · replace h := ifp c29 h
        refine lv_iconst (v := 0) hx hb dX5_acceptDigit_85 (by decide) ?_
        cases h
        exact K28 _ _ _ hP hD hS (lv_sub hl [] rfl)
      · replace h := ifn c29 h
        refine lv_aload_n hx hb dX5_acceptDigit_71 rfl (lv_at hl 0 rfl) ?_
        replace h := bd h
        obtain ⟨x30, q31, h⟩ := h
        refine fg_4_3 hx hb hts hown hK hP wd_199 q31 dX5_acceptDigit_72 ?_
        refine lv_sipush (v := 255) hx hb dX5_acceptDigit_75 (by decide) ?_
        refine lv_icmp_gt (tgt := 85) hx hb dX5_acceptDigit_78 (by decide) (fun c32 => ?_) (fun c32 => ?_)
        · replace h := ifp c32 h
          refine lv_iconst (v := 0) hx hb dX5_acceptDigit_85 (by decide) ?_
          cases h
          exact K28 _ _ _ hP hD hS (lv_sub hl [] rfl)
        · replace h := ifn c32 h
          refine lv_iconst (v := 1) hx hb dX5_acceptDigit_81 (by decide) ?_
          refine lv_goto (tgt := 86) hx hb dX5_acceptDigit_82 (by decide) ?_
          cases h
          exact K28 _ _ _ hP hD hS (lv_sub hl [] rfl)
    · replace h := ifn c4 h
      by_cases c5 : x1 = 2
      · replace h := ifp c5 h
        refine lv_tableIn (off := 83) (tgt := 87) hx hb dX5_acceptDigit_4 (by rw [c5]; decide) (by rw [c5]; decide) (by rw [c5]; rfl) (by decide) ?_
        refine lv_aload_n hx hb dX5_acceptDigit_87 rfl (lv_at hl 0 rfl) ?_
        refine lv_iconst (v := 3) hx hb dX5_acceptDigit_88 (by decide) ?_
        replace h := bd h
        obtain ⟨Z34, q35, h⟩ := h
        refine fp_4_2 hx hb hts hown hK hP hD hS wd_198 q35 dX5_acceptDigit_89 (fun H locs hz9 hP hD hS => ?_)
        refine lv_aload_n hx hb dX5_acceptDigit_92 rfl (lv_at hl 0 rfl) ?_
        refine lv_iload_n hx hb dX5_acceptDigit_93 rfl (lv_at hl 1 rfl) ?_
        replace h := bd h
        obtain ⟨Z36, q37, h⟩ := h
        refine fp_4_4 hx hb hts hown hK hP hD hS wd_200 q37 dX5_acceptDigit_94 (fun H locs hz9 hP hD hS => ?_)
        refine lv_aload_n hx hb dX5_acceptDigit_97 rfl (lv_at hl 0 rfl) ?_
        replace h := bd h
        obtain ⟨x38, q39, h⟩ := h
        refine fg_4_4 hx hb hts hown hK hP wd_200 q39 dX5_acceptDigit_98 ?_
        refine lv_iconst (v := 1) hx hb dX5_acceptDigit_101 (by decide) ?_
        replace h := bd h
        obtain ⟨t40, ht, h⟩ := h
        have K40 : ∀ (H : Heap) (locs : List Loc) (ls : Array Slot), SP D cy Z36 H → (∀ a, Z36 a ≠ none → (dm S s.heap.size) a) → va_S (dm S s.heap.size) s.heap H locs → lv_has ls 2 [] → W p l e rm_X5_acceptDigit s m ([.ref a0, .int a1] : List Value).toArray below meth c H locs 0 0 (MQ below (va_Qi (fun r' (_ : Unit) => r' = r) (fun _ t => PoS D cy S1 (dm S s.heap.size) t) (dm S s.heap.size)) ([.ref a0, .int a1] : List Value).toArray s 0 0 (dm S s.heap.size)) (F0 m 110 ls [.int t40]) := by
          intro H locs ls hP hD hS hl
          replace h := bd h
          obtain ⟨_, q42, h⟩ := h
          cases h
          exact e_zm hx hb hlocks (zz_spec q42) hr hP hD hS (Nat.le_of_ble_eq_true rfl) (Nat.le_of_ble_eq_true rfl) dX5_acceptDigit_110
        replace h := ht
        refine lv_icmp_lt (tgt := 109) hx hb dX5_acceptDigit_102 (by decide) (fun c41 => ?_) (fun c41 => ?_)
        · replace h := ifp c41 h
          refine lv_iconst (v := 0) hx hb dX5_acceptDigit_109 (by decide) ?_
          cases h
          exact K40 _ _ _ hP hD hS (lv_sub hl [] rfl)
        · replace h := ifn c41 h
          refine lv_iconst (v := 1) hx hb dX5_acceptDigit_105 (by decide) ?_
          refine lv_goto (tgt := 110) hx hb dX5_acceptDigit_106 (by decide) ?_
          cases h
          exact K40 _ _ _ hP hD hS (lv_sub hl [] rfl)
      · replace h := ifn c5 h
        refine lv_tableOut (tgt := 111) hx hb dX5_acceptDigit_4 (tsw_out (x := x1) 0 3 (fun k hk => by match k, hk with | 0, _ => exact c3 | 1, _ => exact c4 | 2, _ => exact c5) (by decide)) (by decide) ?_
        refine lv_aload_n hx hb dX5_acceptDigit_111 rfl (lv_at hl 0 rfl) ?_
        refine lv_bipush (v := 10) hx hb dX5_acceptDigit_112 (by decide) ?_
        refine lv_aload_n hx hb dX5_acceptDigit_114 rfl (lv_at hl 0 rfl) ?_
        replace h := bd h
        obtain ⟨x6, q7, h⟩ := h
        refine fg_4_4 hx hb hts hown hK hP wd_200 q7 dX5_acceptDigit_115 ?_
        refine lv_imul hx hb dX5_acceptDigit_118 ?_
        refine lv_iload_n hx hb dX5_acceptDigit_119 rfl (lv_at hl 1 rfl) ?_
        refine lv_iadd hx hb dX5_acceptDigit_120 ?_
        replace h := bd h
        obtain ⟨Z8, q9, h⟩ := h
        refine fp_4_4 hx hb hts hown hK hP hD hS wd_200 q9 dX5_acceptDigit_121 (fun H locs hz9 hP hD hS => ?_)
        refine lv_aload_n hx hb dX5_acceptDigit_124 rfl (lv_at hl 0 rfl) ?_
        replace h := bd h
        obtain ⟨x10, q11, h⟩ := h
        refine fg_4_4 hx hb hts hown hK hP wd_200 q11 dX5_acceptDigit_125 ?_
        refine lv_bipush (v := 24) hx hb dX5_acceptDigit_128 (by decide) ?_
        replace h := bd h
        obtain ⟨t12, ht, h⟩ := h
        have K12 : ∀ (H : Heap) (locs : List Loc) (ls : Array Slot), SP D cy Z8 H → (∀ a, Z8 a ≠ none → (dm S s.heap.size) a) → va_S (dm S s.heap.size) s.heap H locs → lv_has ls 2 [] → W p l e rm_X5_acceptDigit s m ([.ref a0, .int a1] : List Value).toArray below meth c H locs 0 0 (MQ below (va_Qi (fun r' (_ : Unit) => r' = r) (fun _ t => PoS D cy S1 (dm S s.heap.size) t) (dm S s.heap.size)) ([.ref a0, .int a1] : List Value).toArray s 0 0 (dm S s.heap.size)) (F0 m 138 ls [.int t12]) := by
          intro H locs ls hP hD hS hl
          replace h := bd h
          obtain ⟨_, q14, h⟩ := h
          cases h
          exact e_zm hx hb hlocks (zz_spec q14) hr hP hD hS (Nat.le_of_ble_eq_true rfl) (Nat.le_of_ble_eq_true rfl) dX5_acceptDigit_138
        replace h := ht
        refine lv_icmp_gt (tgt := 137) hx hb dX5_acceptDigit_130 (by decide) (fun c13 => ?_) (fun c13 => ?_)
        · replace h := ifp c13 h
          refine lv_iconst (v := 0) hx hb dX5_acceptDigit_137 (by decide) ?_
          cases h
          exact K12 _ _ _ hP hD hS (lv_sub hl [] rfl)
        · replace h := ifn c13 h
          refine lv_iconst (v := 1) hx hb dX5_acceptDigit_133 (by decide) ?_
          refine lv_goto (tgt := 138) hx hb dX5_acceptDigit_134 (by decide) ?_
          cases h
          exact K12 _ _ _ hP hD hS (lv_sub hl [] rfl)
set_option maxRecDepth 100000 in
theorem c_X5_acceptDigit {p : Program} {l : Launch} {e : Env} {R : Room} {s : State} {m : MethodId} {args : Array Value} {below : List Frame} {meth : Method} {c : Code} {H : Heap} {locs : List Loc} {cells slots : Nat} {Q : State → Prop} {cc : ByteArray} {pc index nL : Nat} {ls : Array Slot} {rest : List Value} {D : va_G} {cy : Nat → ClassId} {A0 : Nat → Prop} {S : St} {H0 : Heap} {own : String} {u : Unit} {a0 : Nat} {a1 : Int32} {r : Int32} {S1 : St}  (hF : CallFix p m c cc nL s args ALLW own) (hsz : ls.size = nL) (hK : va_K D vwCl (tyL cy) s) (hP : SP D cy S H) (hD : ∀ a, S a ≠ none → A0 a) (hA : ∀ q, H0.size ≤ q → A0 q) (hS : va_S A0 H0 H locs) (hk : Cond.methodLink own index yX5_acceptDigit ∈ ALLW) (hR : rm_X5_acceptDigit.frames + 1 ≤ R.frames ∧ 8 + (2 + 11) + rm_X5_acceptDigit.locals ≤ R.locals) (h : f_X5_acceptDigit S a0 a1 = some (r, S1)) (hc : oO S a0 4 = some u) (hW : (rest.map fun v => v.category).sum ≤ 8) (hdg : decode cc pc = .ok (.invokevirtual index, 3)) (hf : cells + 0 ≤ R.cells ∧ slots + 0 ≤ R.slots)
    (kk : ∀ (H1 : Heap) (locs1 : List Loc), SP D cy S1 H1 → (∀ a, S1 a ≠ none → A0 a) → va_S A0 H0 H1 locs1 → W p l e R s m args below meth c H1 locs1 (cells + 0) (slots + 0) Q (F0 m (pc + 3) ls (.int r :: rest))) : W p l e R s m args below meth c H locs cells slots Q (F0 m pc ls (.int a1 :: .ref a0 :: rest)) := by
  exact k_iVm (As := [.int a1]) hF hsz (m_X5_acceptDigit l D cy H.size S a0 a1 r S1 h) (cwV_of (n := 1) hF.2.2.2.2 hk wd_253 wd_1 wd_74 wd_254 rfl rfl (by decide +kernel) hR) rfl hK hP hD hA hS (ci := 4) hc rfl hW rfl hdg hf kk
/-- VowBlocks$RowText.accept(I)Z -/
def f_X5_accept (S : St) (a0 : Nat) (a1 : Int32) : Option (Int32 × St) :=
  if a1 < 48 then
    if a1 = 44 then
      (oO S a0 4).bind fun _ =>
      (f_X5_partIsWhole S a0).bind fun x11 =>
      if x11 = 0 then
        if a1 = 42 then
          (gI S a0 4 2).bind fun x14 =>
          if x14 = 1 then
            (pI S a0 4 2 2).bind fun Z17 =>
            some (1, Z17)
          else
            some (0, S)
        else
          some (0, S)
      else
        (pI S a0 4 2 0).bind fun Z19 =>
        some (1, Z19)
    else
      if a1 = 42 then
        (gI S a0 4 2).bind fun x4 =>
        if x4 = 1 then
          (pI S a0 4 2 2).bind fun Z7 =>
          some (1, Z7)
        else
          some (0, S)
      else
        some (0, S)
  else
    if 57 < a1 then
      if a1 = 44 then
        (oO S a0 4).bind fun _ =>
        (f_X5_partIsWhole S a0).bind fun x31 =>
        if x31 = 0 then
          if a1 = 42 then
            (gI S a0 4 2).bind fun x34 =>
            if x34 = 1 then
              (pI S a0 4 2 2).bind fun Z37 =>
              some (1, Z37)
            else
              some (0, S)
          else
            some (0, S)
        else
          (pI S a0 4 2 0).bind fun Z39 =>
          some (1, Z39)
      else
        if a1 = 42 then
          (gI S a0 4 2).bind fun x24 =>
          if x24 = 1 then
            (pI S a0 4 2 2).bind fun Z27 =>
            some (1, Z27)
          else
            some (0, S)
        else
          some (0, S)
    else
      (oO S a0 4).bind fun _ =>
      (f_X5_acceptDigit S a0 (a1 - 48)).bind fun z43 =>
      (zz z43.1).bind fun _ =>
      some (z43.1, z43.2)
abbrev rm_X5_accept : Room := { frames := 1, cells := 0, slots := 0, locals := 21 }
set_option maxHeartbeats 4000000 in
set_option maxRecDepth 100000 in
theorem m_X5_accept (l : Launch) (D : va_G) (cy : Nat → ClassId) (sz : Nat) (S : St) (a0 : Nat) (a1 : Int32) (r : Int32) (S1 : St) (h : f_X5_accept S a0 a1 = some (r, S1)) : Met l yX5_accept (wsA yX5_accept cX5_accept 2 (some .boolean)) rm_X5_accept (va_Pc [.ref a0, .int a1] (PN D cy S sz)) (va_Qi (fun r' (_ : Unit) => r' = r) (fun _ t => PoS D cy S1 (dm S sz) t) (dm S sz)) 0 0 (dm S sz) := by
  refine Met.ofW (cc := cX5_accept) (maxL := 2) (ret := (some .boolean)) (by decide) rfl ?_
  intro p e s m args below meth c s₁ B hml hv
  obtain ⟨rfl, hsz, hP, hK⟩ := hv
  have hx := B.exec
  have hb := B.bytes
  have hr := B.returns
  have hts9 := atoms_spec (ws := wsA yX5_accept cX5_accept 2 (some .boolean)) B.pre
  have hts : ∀ w ∈ ALLW, w.before _ s = true := fun w h => hts9 w (List.mem_cons_of_mem _ h)
  have hown : s.vm.findClass RX5 = some m.cls := findClass_of_methodNamed B.named
  have hlocks := B.notSynchronized
  subst hsz
  have hD : ∀ a, S a ≠ none → dm S s.heap.size a := fun a h => Or.inl h
  have hA : ∀ q : Nat, s.heap.size ≤ q → dm S s.heap.size q := fun q h => Or.inr h
  have hS : va_S (dm S s.heap.size) s.heap s.heap [] := va_S.rf
  have hl := lv_entry [.ref a0, .int a1] (n := 2) (Nat.le_of_ble_eq_true rfl)
  rw [lg_entry_eq]
  generalize (lg_sl [.ref a0, .int a1] ++ List.replicate (2 - (lg_sl [.ref a0, .int a1]).length) Slot.unset).toArray = ls at hl ⊢
  have hl : lv_has ls 2 [(0, .ref a0), (1, .int a1)] := hl
  rw [f_X5_accept] at h
  refine lv_iload_n hx hb dX5_accept_0 rfl (lv_at hl 1 rfl) ?_
  refine lv_bipush (v := 48) hx hb dX5_accept_1 (by decide) ?_
  refine lv_icmp_lt (tgt := 21) hx hb dX5_accept_3 (by decide) (fun c1 => ?_) (fun c1 => ?_)
  · replace h := ifp c1 h
    refine lv_iload_n hx hb dX5_accept_21 rfl (lv_at hl 1 rfl) ?_
    refine lv_bipush (v := 44) hx hb dX5_accept_22 (by decide) ?_
    refine lv_icmp_ne (tgt := 41) hx hb dX5_accept_24 (by decide) (fun c2 => ?_) (fun c2 => ?_)
    · replace h := ifn c2 h
      refine lv_iload_n hx hb dX5_accept_41 rfl (lv_at hl 1 rfl) ?_
      refine lv_bipush (v := 42) hx hb dX5_accept_42 (by decide) ?_
      refine lv_icmp_ne (tgt := 62) hx hb dX5_accept_44 (by decide) (fun c3 => ?_) (fun c3 => ?_)
      · replace h := ifn c3 h
        refine lv_iconst (v := 0) hx hb dX5_accept_62 (by decide) ?_
        cases h
        exact e_zm hx hb hlocks (by decide) hr hP hD hS (Nat.le_of_ble_eq_true rfl) (Nat.le_of_ble_eq_true rfl) dX5_accept_63
      · replace h := ifp c3 h
        refine lv_aload_n hx hb dX5_accept_47 rfl (lv_at hl 0 rfl) ?_
        replace h := bd h
        obtain ⟨x4, q5, h⟩ := h
        refine fg_4_2 hx hb hts hown hK hP wd_198 q5 dX5_accept_48 ?_
        refine lv_iconst (v := 1) hx hb dX5_accept_51 (by decide) ?_
        refine lv_icmp_ne (tgt := 62) hx hb dX5_accept_52 (by decide) (fun c6 => ?_) (fun c6 => ?_)
        · replace h := ifn c6 h
          refine lv_iconst (v := 0) hx hb dX5_accept_62 (by decide) ?_
          cases h
          exact e_zm hx hb hlocks (by decide) hr hP hD hS (Nat.le_of_ble_eq_true rfl) (Nat.le_of_ble_eq_true rfl) dX5_accept_63
        · replace h := ifp c6 h
          refine lv_aload_n hx hb dX5_accept_55 rfl (lv_at hl 0 rfl) ?_
          refine lv_iconst (v := 2) hx hb dX5_accept_56 (by decide) ?_
          replace h := bd h
          obtain ⟨Z7, q8, h⟩ := h
          refine fp_4_2 hx hb hts hown hK hP hD hS wd_198 q8 dX5_accept_57 (fun H locs hz9 hP hD hS => ?_)
          refine lv_iconst (v := 1) hx hb dX5_accept_60 (by decide) ?_
          cases h
          exact e_zm hx hb hlocks (by decide) hr hP hD hS (Nat.le_of_ble_eq_true rfl) (Nat.le_of_ble_eq_true rfl) dX5_accept_61
    · replace h := ifp c2 h
      refine lv_aload_n hx hb dX5_accept_27 rfl (lv_at hl 0 rfl) ?_
      replace h := bd h
      obtain ⟨_, q9, h⟩ := h
      replace h := bd h
      obtain ⟨x11, q10, h⟩ := h
      refine c_X5_partIsWhole ⟨hx, hb, hml, hown, hts⟩ hl.1 hK hP hS wd_255 ⟨(Nat.le_of_ble_eq_true rfl), (Nat.le_of_ble_eq_true rfl)⟩ q10 q9 (Nat.le_of_ble_eq_true rfl) dX5_accept_28 ⟨(Nat.le_of_ble_eq_true rfl), (Nat.le_of_ble_eq_true rfl)⟩ (fun H locs hP hS => ?_)
      refine lv_if_eq (tgt := 41) hx hb dX5_accept_31 (by decide) (fun c12 => ?_) (fun c12 => ?_)
      · replace h := ifp c12 h
        refine lv_iload_n hx hb dX5_accept_41 rfl (lv_at hl 1 rfl) ?_
        refine lv_bipush (v := 42) hx hb dX5_accept_42 (by decide) ?_
        refine lv_icmp_ne (tgt := 62) hx hb dX5_accept_44 (by decide) (fun c13 => ?_) (fun c13 => ?_)
        · replace h := ifn c13 h
          refine lv_iconst (v := 0) hx hb dX5_accept_62 (by decide) ?_
          cases h
          exact e_zm hx hb hlocks (by decide) hr hP hD hS (Nat.le_of_ble_eq_true rfl) (Nat.le_of_ble_eq_true rfl) dX5_accept_63
        · replace h := ifp c13 h
          refine lv_aload_n hx hb dX5_accept_47 rfl (lv_at hl 0 rfl) ?_
          replace h := bd h
          obtain ⟨x14, q15, h⟩ := h
          refine fg_4_2 hx hb hts hown hK hP wd_198 q15 dX5_accept_48 ?_
          refine lv_iconst (v := 1) hx hb dX5_accept_51 (by decide) ?_
          refine lv_icmp_ne (tgt := 62) hx hb dX5_accept_52 (by decide) (fun c16 => ?_) (fun c16 => ?_)
          · replace h := ifn c16 h
            refine lv_iconst (v := 0) hx hb dX5_accept_62 (by decide) ?_
            cases h
            exact e_zm hx hb hlocks (by decide) hr hP hD hS (Nat.le_of_ble_eq_true rfl) (Nat.le_of_ble_eq_true rfl) dX5_accept_63
          · replace h := ifp c16 h
            refine lv_aload_n hx hb dX5_accept_55 rfl (lv_at hl 0 rfl) ?_
            refine lv_iconst (v := 2) hx hb dX5_accept_56 (by decide) ?_
            replace h := bd h
            obtain ⟨Z17, q18, h⟩ := h
            refine fp_4_2 hx hb hts hown hK hP hD hS wd_198 q18 dX5_accept_57 (fun H locs hz9 hP hD hS => ?_)
            refine lv_iconst (v := 1) hx hb dX5_accept_60 (by decide) ?_
            cases h
            exact e_zm hx hb hlocks (by decide) hr hP hD hS (Nat.le_of_ble_eq_true rfl) (Nat.le_of_ble_eq_true rfl) dX5_accept_61
      · replace h := ifn c12 h
        refine lv_aload_n hx hb dX5_accept_34 rfl (lv_at hl 0 rfl) ?_
        refine lv_iconst (v := 0) hx hb dX5_accept_35 (by decide) ?_
        replace h := bd h
        obtain ⟨Z19, q20, h⟩ := h
        refine fp_4_2 hx hb hts hown hK hP hD hS wd_198 q20 dX5_accept_36 (fun H locs hz9 hP hD hS => ?_)
        refine lv_iconst (v := 1) hx hb dX5_accept_39 (by decide) ?_
        cases h
        exact e_zm hx hb hlocks (by decide) hr hP hD hS (Nat.le_of_ble_eq_true rfl) (Nat.le_of_ble_eq_true rfl) dX5_accept_40
  · replace h := ifn c1 h
    refine lv_iload_n hx hb dX5_accept_6 rfl (lv_at hl 1 rfl) ?_
    refine lv_bipush (v := 57) hx hb dX5_accept_7 (by decide) ?_
    refine lv_icmp_gt (tgt := 21) hx hb dX5_accept_9 (by decide) (fun c21 => ?_) (fun c21 => ?_)
    · replace h := ifp c21 h
      refine lv_iload_n hx hb dX5_accept_21 rfl (lv_at hl 1 rfl) ?_
      refine lv_bipush (v := 44) hx hb dX5_accept_22 (by decide) ?_
      refine lv_icmp_ne (tgt := 41) hx hb dX5_accept_24 (by decide) (fun c22 => ?_) (fun c22 => ?_)
      · replace h := ifn c22 h
        refine lv_iload_n hx hb dX5_accept_41 rfl (lv_at hl 1 rfl) ?_
        refine lv_bipush (v := 42) hx hb dX5_accept_42 (by decide) ?_
        refine lv_icmp_ne (tgt := 62) hx hb dX5_accept_44 (by decide) (fun c23 => ?_) (fun c23 => ?_)
        · replace h := ifn c23 h
          refine lv_iconst (v := 0) hx hb dX5_accept_62 (by decide) ?_
          cases h
          exact e_zm hx hb hlocks (by decide) hr hP hD hS (Nat.le_of_ble_eq_true rfl) (Nat.le_of_ble_eq_true rfl) dX5_accept_63
        · replace h := ifp c23 h
          refine lv_aload_n hx hb dX5_accept_47 rfl (lv_at hl 0 rfl) ?_
          replace h := bd h
          obtain ⟨x24, q25, h⟩ := h
          refine fg_4_2 hx hb hts hown hK hP wd_198 q25 dX5_accept_48 ?_
          refine lv_iconst (v := 1) hx hb dX5_accept_51 (by decide) ?_
          refine lv_icmp_ne (tgt := 62) hx hb dX5_accept_52 (by decide) (fun c26 => ?_) (fun c26 => ?_)
          · replace h := ifn c26 h
            refine lv_iconst (v := 0) hx hb dX5_accept_62 (by decide) ?_
            cases h
            exact e_zm hx hb hlocks (by decide) hr hP hD hS (Nat.le_of_ble_eq_true rfl) (Nat.le_of_ble_eq_true rfl) dX5_accept_63
          · replace h := ifp c26 h
            refine lv_aload_n hx hb dX5_accept_55 rfl (lv_at hl 0 rfl) ?_
            refine lv_iconst (v := 2) hx hb dX5_accept_56 (by decide) ?_
            replace h := bd h
            obtain ⟨Z27, q28, h⟩ := h
            refine fp_4_2 hx hb hts hown hK hP hD hS wd_198 q28 dX5_accept_57 (fun H locs hz9 hP hD hS => ?_)
            refine lv_iconst (v := 1) hx hb dX5_accept_60 (by decide) ?_
            cases h
            exact e_zm hx hb hlocks (by decide) hr hP hD hS (Nat.le_of_ble_eq_true rfl) (Nat.le_of_ble_eq_true rfl) dX5_accept_61
      · replace h := ifp c22 h
        refine lv_aload_n hx hb dX5_accept_27 rfl (lv_at hl 0 rfl) ?_
        replace h := bd h
        obtain ⟨_, q29, h⟩ := h
        replace h := bd h
        obtain ⟨x31, q30, h⟩ := h
        refine c_X5_partIsWhole ⟨hx, hb, hml, hown, hts⟩ hl.1 hK hP hS wd_255 ⟨(Nat.le_of_ble_eq_true rfl), (Nat.le_of_ble_eq_true rfl)⟩ q30 q29 (Nat.le_of_ble_eq_true rfl) dX5_accept_28 ⟨(Nat.le_of_ble_eq_true rfl), (Nat.le_of_ble_eq_true rfl)⟩ (fun H locs hP hS => ?_)
        refine lv_if_eq (tgt := 41) hx hb dX5_accept_31 (by decide) (fun c32 => ?_) (fun c32 => ?_)
        · replace h := ifp c32 h
          refine lv_iload_n hx hb dX5_accept_41 rfl (lv_at hl 1 rfl) ?_
          refine lv_bipush (v := 42) hx hb dX5_accept_42 (by decide) ?_
          refine lv_icmp_ne (tgt := 62) hx hb dX5_accept_44 (by decide) (fun c33 => ?_) (fun c33 => ?_)
          · replace h := ifn c33 h
            refine lv_iconst (v := 0) hx hb dX5_accept_62 (by decide) ?_
            cases h
            exact e_zm hx hb hlocks (by decide) hr hP hD hS (Nat.le_of_ble_eq_true rfl) (Nat.le_of_ble_eq_true rfl) dX5_accept_63
          · replace h := ifp c33 h
            refine lv_aload_n hx hb dX5_accept_47 rfl (lv_at hl 0 rfl) ?_
            replace h := bd h
            obtain ⟨x34, q35, h⟩ := h
            refine fg_4_2 hx hb hts hown hK hP wd_198 q35 dX5_accept_48 ?_
            refine lv_iconst (v := 1) hx hb dX5_accept_51 (by decide) ?_
            refine lv_icmp_ne (tgt := 62) hx hb dX5_accept_52 (by decide) (fun c36 => ?_) (fun c36 => ?_)
            · replace h := ifn c36 h
              refine lv_iconst (v := 0) hx hb dX5_accept_62 (by decide) ?_
              cases h
              exact e_zm hx hb hlocks (by decide) hr hP hD hS (Nat.le_of_ble_eq_true rfl) (Nat.le_of_ble_eq_true rfl) dX5_accept_63
            · replace h := ifp c36 h
              refine lv_aload_n hx hb dX5_accept_55 rfl (lv_at hl 0 rfl) ?_
              refine lv_iconst (v := 2) hx hb dX5_accept_56 (by decide) ?_
              replace h := bd h
              obtain ⟨Z37, q38, h⟩ := h
              refine fp_4_2 hx hb hts hown hK hP hD hS wd_198 q38 dX5_accept_57 (fun H locs hz9 hP hD hS => ?_)
              refine lv_iconst (v := 1) hx hb dX5_accept_60 (by decide) ?_
              cases h
              exact e_zm hx hb hlocks (by decide) hr hP hD hS (Nat.le_of_ble_eq_true rfl) (Nat.le_of_ble_eq_true rfl) dX5_accept_61
        · replace h := ifn c32 h
          refine lv_aload_n hx hb dX5_accept_34 rfl (lv_at hl 0 rfl) ?_
          refine lv_iconst (v := 0) hx hb dX5_accept_35 (by decide) ?_
          replace h := bd h
          obtain ⟨Z39, q40, h⟩ := h
          refine fp_4_2 hx hb hts hown hK hP hD hS wd_198 q40 dX5_accept_36 (fun H locs hz9 hP hD hS => ?_)
          refine lv_iconst (v := 1) hx hb dX5_accept_39 (by decide) ?_
          cases h
          exact e_zm hx hb hlocks (by decide) hr hP hD hS (Nat.le_of_ble_eq_true rfl) (Nat.le_of_ble_eq_true rfl) dX5_accept_40
    · replace h := ifn c21 h
      refine lv_aload_n hx hb dX5_accept_12 rfl (lv_at hl 0 rfl) ?_
      refine lv_iload_n hx hb dX5_accept_13 rfl (lv_at hl 1 rfl) ?_
      refine lv_bipush (v := 48) hx hb dX5_accept_14 (by decide) ?_
      refine lv_isub hx hb dX5_accept_16 ?_
      replace h := bd h
      obtain ⟨_, q41, h⟩ := h
      replace h := bd h
      obtain ⟨z43, q42, h⟩ := h
      refine c_X5_acceptDigit ⟨hx, hb, hml, hown, hts⟩ hl.1 hK hP hD hA hS wd_251 ⟨(Nat.le_of_ble_eq_true rfl), (Nat.le_of_ble_eq_true rfl)⟩ q42 q41 (Nat.le_of_ble_eq_true rfl) dX5_accept_17 ⟨(Nat.le_of_ble_eq_true rfl), (Nat.le_of_ble_eq_true rfl)⟩ (fun H locs hP hD hS => ?_)
      replace h := bd h
      obtain ⟨_, q44, h⟩ := h
      cases h
      exact e_zm hx hb hlocks (zz_spec q44) hr hP hD hS (Nat.le_of_ble_eq_true rfl) (Nat.le_of_ble_eq_true rfl) dX5_accept_20
set_option maxRecDepth 100000 in
theorem c_X5_accept {p : Program} {l : Launch} {e : Env} {R : Room} {s : State} {m : MethodId} {args : Array Value} {below : List Frame} {meth : Method} {c : Code} {H : Heap} {locs : List Loc} {cells slots : Nat} {Q : State → Prop} {cc : ByteArray} {pc index nL : Nat} {ls : Array Slot} {rest : List Value} {D : va_G} {cy : Nat → ClassId} {A0 : Nat → Prop} {S : St} {H0 : Heap} {own : String} {u : Unit} {a0 : Nat} {a1 : Int32} {r : Int32} {S1 : St}  (hF : CallFix p m c cc nL s args ALLW own) (hsz : ls.size = nL) (hK : va_K D vwCl (tyL cy) s) (hP : SP D cy S H) (hD : ∀ a, S a ≠ none → A0 a) (hA : ∀ q, H0.size ≤ q → A0 q) (hS : va_S A0 H0 H locs) (hk : Cond.methodLink own index yX5_accept ∈ ALLW) (hR : rm_X5_accept.frames + 1 ≤ R.frames ∧ 8 + (2 + 11) + rm_X5_accept.locals ≤ R.locals) (h : f_X5_accept S a0 a1 = some (r, S1)) (hc : oO S a0 4 = some u) (hW : (rest.map fun v => v.category).sum ≤ 8) (hdg : decode cc pc = .ok (.invokevirtual index, 3)) (hf : cells + 0 ≤ R.cells ∧ slots + 0 ≤ R.slots)
    (kk : ∀ (H1 : Heap) (locs1 : List Loc), SP D cy S1 H1 → (∀ a, S1 a ≠ none → A0 a) → va_S A0 H0 H1 locs1 → W p l e R s m args below meth c H1 locs1 (cells + 0) (slots + 0) Q (F0 m (pc + 3) ls (.int r :: rest))) : W p l e R s m args below meth c H locs cells slots Q (F0 m pc ls (.int a1 :: .ref a0 :: rest)) := by
  exact k_iVm (As := [.int a1]) hF hsz (m_X5_accept l D cy H.size S a0 a1 r S1 h) (cwV_of (n := 1) hF.2.2.2.2 hk wd_249 wd_0 wd_74 wd_250 rfl rfl (by decide +kernel) hR) rfl hK hP hD hA hS (ci := 4) hc rfl hW rfl hdg hf kk
/-- VowBlocks$RowText.spell(LVowBlocks$Row;)Z -/
def f_X5_spell_L11 (y11_0 : Nat) (y11_1 : Nat) : Nat → St → Int32 →  Option ((Int32 × St) ⊕ (St))
  | 0, _, _ => none
  | fu + 1, S11_, y11_2 =>
    (gI S11_ y11_0 4 1).bind fun x8 =>
    if x8 ≤ y11_2 then
      some (.inr S11_)
    else
      (gR S11_ y11_0 4 0).bind fun x11 =>
      (aI S11_ x11 y11_2).bind fun x13 =>
      if x13 = 44 then
        (oO S11_ y11_0 4).bind fun _ =>
        (f_X5_endPart S11_ y11_0 y11_1).bind fun z26 =>
        if z26.1 = 0 then
          some (.inl (0, z26.2))
        else
          (gR z26.2 y11_0 4 0).bind fun x28 =>
          (aI z26.2 x28 y11_2).bind fun x30 =>
          (oO z26.2 y11_0 4).bind fun _ =>
          (f_X5_accept z26.2 y11_0 x30).bind fun z34 =>
          if z34.1 = 0 then
            some (.inl (0, z34.2))
          else
            f_X5_spell_L11 y11_0 y11_1 fu z34.2 (y11_2 + 1)
      else
        (gR S11_ y11_0 4 0).bind fun x16 =>
        (aI S11_ x16 y11_2).bind fun x18 =>
        (oO S11_ y11_0 4).bind fun _ =>
        (f_X5_accept S11_ y11_0 x18).bind fun z22 =>
        if z22.1 = 0 then
          some (.inl (0, z22.2))
        else
          f_X5_spell_L11 y11_0 y11_1 fu z22.2 (y11_2 + 1)
def f_X5_spell (S : St) (a0 : Nat) (a1 : Nat) : Option (Int32 × St) :=
  (oO S a1 3).bind fun _ =>
  (f_X4_clear S a1).bind fun z3 =>
  (pI z3 a0 4 2 0).bind fun Z4 =>
  (f_X5_spell_L11 a0 a1 FU Z4 0).bind fun z6 =>
  Sum.elim (fun y => some y) (fun t11_6 =>
  (oO t11_6 a0 4).bind fun _ =>
  (f_X5_endPart t11_6 a0 a1).bind fun z39 =>
  (zz z39.1).bind fun _ =>
  some (z39.1, z39.2)
  ) z6
abbrev rm_X5_spell : Room := { frames := 3, cells := 0, slots := 0, locals := 65 }
set_option maxHeartbeats 4000000 in
set_option maxRecDepth 100000 in
theorem m_X5_spell (l : Launch) (D : va_G) (cy : Nat → ClassId) (sz : Nat) (S : St) (a0 : Nat) (a1 : Nat) (r : Int32) (S1 : St) (h : f_X5_spell S a0 a1 = some (r, S1)) : Met l yX5_spell (wsA yX5_spell cX5_spell 3 (some .boolean)) rm_X5_spell (va_Pc [.ref a0, .ref a1] (PN D cy S sz)) (va_Qi (fun r' (_ : Unit) => r' = r) (fun _ t => PoS D cy S1 (dm S sz) t) (dm S sz)) 0 0 (dm S sz) := by
  refine Met.ofW (cc := cX5_spell) (maxL := 3) (ret := (some .boolean)) (by decide) rfl ?_
  intro p e s m args below meth c s₁ B hml hv
  obtain ⟨rfl, hsz, hP, hK⟩ := hv
  have hx := B.exec
  have hb := B.bytes
  have hr := B.returns
  have hts9 := atoms_spec (ws := wsA yX5_spell cX5_spell 3 (some .boolean)) B.pre
  have hts : ∀ w ∈ ALLW, w.before _ s = true := fun w h => hts9 w (List.mem_cons_of_mem _ h)
  have hown : s.vm.findClass RX5 = some m.cls := findClass_of_methodNamed B.named
  have hlocks := B.notSynchronized
  subst hsz
  have hD : ∀ a, S a ≠ none → dm S s.heap.size a := fun a h => Or.inl h
  have hA : ∀ q : Nat, s.heap.size ≤ q → dm S s.heap.size q := fun q h => Or.inr h
  have hS : va_S (dm S s.heap.size) s.heap s.heap [] := va_S.rf
  have hl := lv_entry [.ref a0, .ref a1] (n := 3) (Nat.le_of_ble_eq_true rfl)
  rw [lg_entry_eq]
  generalize (lg_sl [.ref a0, .ref a1] ++ List.replicate (3 - (lg_sl [.ref a0, .ref a1]).length) Slot.unset).toArray = ls at hl ⊢
  have hl : lv_has ls 3 [(0, .ref a0), (1, .ref a1)] := hl
  rw [f_X5_spell] at h
  refine lv_aload_n hx hb dX5_spell_0 rfl (lv_at hl 1 rfl) ?_
  replace h := bd h
  obtain ⟨_, q1, h⟩ := h
  replace h := bd h
  obtain ⟨z3, q2, h⟩ := h
  refine c_X4_clear ⟨hx, hb, hml, hown, hts⟩ hl.1 hK hP hD hA hS wd_623 ⟨(Nat.le_of_ble_eq_true rfl), (Nat.le_of_ble_eq_true rfl)⟩ q2 q1 (Nat.le_of_ble_eq_true rfl) dX5_spell_1 ⟨(Nat.le_of_ble_eq_true rfl), (Nat.le_of_ble_eq_true rfl)⟩ (fun H locs hP hD hS => ?_)
  refine lv_aload_n hx hb dX5_spell_4 rfl (lv_at hl 0 rfl) ?_
  refine lv_iconst (v := 0) hx hb dX5_spell_5 (by decide) ?_
  replace h := bd h
  obtain ⟨Z4, q5, h⟩ := h
  refine fp_4_2 hx hb hts hown hK hP hD hS wd_198 q5 dX5_spell_6 (fun H locs hz9 hP hD hS => ?_)
  refine lv_iconst (v := 0) hx hb dX5_spell_9 (by decide) ?_
  refine lv_istore_n (lv' := [(2, .int 0), (0, .ref a0), (1, .ref a1)]) hx hb dX5_spell_10 rfl hl (by decide) rfl (fun ls hl => ?_)
  have L11 : ∀ (y11_0 : Nat) (y11_1 : Nat) (fu : Nat) (S11_ : St) (y11_2 : Int32) (res : (Int32 × St) ⊕ (St)), f_X5_spell_L11 y11_0 y11_1 fu S11_ y11_2 = some res → ∀ (H : Heap) (locs : List Loc) (ls : Array Slot), SP D cy S11_ H → (∀ a, S11_ a ≠ none → (dm S s.heap.size) a) → va_S (dm S s.heap.size) s.heap H locs → lv_has ls 3 [(0, .ref y11_0), (1, .ref y11_1), (2, .int y11_2)] → (∀ y : Int32 × St, res = .inl y → y = (r, S1)) → (∀ t11_6 : St, res = .inr t11_6 → ∀ (H : Heap) (locs : List Loc) (ls : Array Slot), SP D cy t11_6 H → (∀ a, t11_6 a ≠ none → (dm S s.heap.size) a) → va_S (dm S s.heap.size) s.heap H locs → lv_has ls 3 [(0, .ref y11_0), (1, .ref y11_1)] → W p l e rm_X5_spell s m ([.ref a0, .ref a1] : List Value).toArray below meth c H locs 0 0 (MQ below (va_Qi (fun r' (_ : Unit) => r' = r) (fun _ t => PoS D cy S1 (dm S s.heap.size) t) (dm S s.heap.size)) ([.ref a0, .ref a1] : List Value).toArray s 0 0 (dm S s.heap.size)) (F0 m 61 ls [])) → W p l e rm_X5_spell s m ([.ref a0, .ref a1] : List Value).toArray below meth c H locs 0 0 (MQ below (va_Qi (fun r' (_ : Unit) => r' = r) (fun _ t => PoS D cy S1 (dm S s.heap.size) t) (dm S s.heap.size)) ([.ref a0, .ref a1] : List Value).toArray s 0 0 (dm S s.heap.size)) (F0 m 11 ls []) := by
    intro y11_0 y11_1 fu
    induction fu with
    | zero =>
      intro S11_ y11_2 res h
      rw [f_X5_spell_L11] at h
      cases h
    | succ fu ih =>
      intro S11_ y11_2 res h H locs ls hP hD hS hl hret hexit
      rw [f_X5_spell_L11] at h
      refine lv_iload_n hx hb dX5_spell_11 rfl (lv_at hl 2 rfl) ?_
      refine lv_aload_n hx hb dX5_spell_12 rfl (lv_at hl 0 rfl) ?_
      replace h := bd h
      obtain ⟨x8, q9, h⟩ := h
      refine fg_4_1 hx hb hts hown hK hP wd_197 q9 dX5_spell_13 ?_
      refine lv_icmp_ge (tgt := 61) hx hb dX5_spell_16 (by decide) (fun c10 => ?_) (fun c10 => ?_)
      · replace h := ifp c10 h
        cases h
        exact hexit _ rfl _ _ _ hP hD hS (lv_sub hl [0, 1] rfl)
      · replace h := ifn c10 h
        refine lv_aload_n hx hb dX5_spell_19 rfl (lv_at hl 0 rfl) ?_
        replace h := bd h
        obtain ⟨x11, q12, h⟩ := h
        refine fg_4_0 hx hb hts hown hK hP wd_196 q12 dX5_spell_20 ?_
        refine lv_iload_n hx hb dX5_spell_23 rfl (lv_at hl 2 rfl) ?_
        replace h := bd h
        obtain ⟨x13, q14, h⟩ := h
        refine r_aI hx hb hK hP q14 dX5_spell_24 ?_
        refine lv_bipush (v := 44) hx hb dX5_spell_25 (by decide) ?_
        refine lv_icmp_ne (tgt := 40) hx hb dX5_spell_27 (by decide) (fun c15 => ?_) (fun c15 => ?_)
        · replace h := ifn c15 h
          refine lv_aload_n hx hb dX5_spell_40 rfl (lv_at hl 0 rfl) ?_
          refine lv_aload_n hx hb dX5_spell_41 rfl (lv_at hl 0 rfl) ?_
          replace h := bd h
          obtain ⟨x16, q17, h⟩ := h
          refine fg_4_0 hx hb hts hown hK hP wd_196 q17 dX5_spell_42 ?_
          refine lv_iload_n hx hb dX5_spell_45 rfl (lv_at hl 2 rfl) ?_
          replace h := bd h
          obtain ⟨x18, q19, h⟩ := h
          refine r_aI hx hb hK hP q19 dX5_spell_46 ?_
          replace h := bd h
          obtain ⟨_, q20, h⟩ := h
          replace h := bd h
          obtain ⟨z22, q21, h⟩ := h
          refine c_X5_accept ⟨hx, hb, hml, hown, hts⟩ hl.1 hK hP hD hA hS wd_247 ⟨(Nat.le_of_ble_eq_true rfl), (Nat.le_of_ble_eq_true rfl)⟩ q21 q20 (Nat.le_of_ble_eq_true rfl) dX5_spell_47 ⟨(Nat.le_of_ble_eq_true rfl), (Nat.le_of_ble_eq_true rfl)⟩ (fun H locs hP hD hS => ?_)
          refine lv_if_ne (tgt := 55) hx hb dX5_spell_50 (by decide) (fun c23 => ?_) (fun c23 => ?_)
          · replace h := ifn c23 h
            refine lv_iinc (v := (y11_2 + 1)) (lv' := [(2, .int (y11_2 + 1)), (0, .ref y11_0), (1, .ref y11_1)]) hx hb dX5_spell_55 hl (k := 2) rfl rfl (by decide) rfl (fun ls hl => ?_)
            refine lv_goto (tgt := 11) hx hb dX5_spell_58 (by decide) ?_
            exact ih z22.2 (y11_2 + 1) _ h _ _ _ hP hD hS (lv_sub hl [1, 2, 0] rfl) hret hexit
          · replace h := ifp c23 h
            refine lv_iconst (v := 0) hx hb dX5_spell_53 (by decide) ?_
            cases h
            have h := hret _ rfl
            cases h
            exact e_zm hx hb hlocks (by decide) hr hP hD hS (Nat.le_of_ble_eq_true rfl) (Nat.le_of_ble_eq_true rfl) dX5_spell_54
        · replace h := ifp c15 h
          refine lv_aload_n hx hb dX5_spell_30 rfl (lv_at hl 0 rfl) ?_
          refine lv_aload_n hx hb dX5_spell_31 rfl (lv_at hl 1 rfl) ?_
          replace h := bd h
          obtain ⟨_, q24, h⟩ := h
          replace h := bd h
          obtain ⟨z26, q25, h⟩ := h
          refine c_X5_endPart ⟨hx, hb, hml, hown, hts⟩ hl.1 hK hP hD hA hS wd_624 ⟨(Nat.le_of_ble_eq_true rfl), (Nat.le_of_ble_eq_true rfl)⟩ q25 q24 (Nat.le_of_ble_eq_true rfl) dX5_spell_32 ⟨(Nat.le_of_ble_eq_true rfl), (Nat.le_of_ble_eq_true rfl)⟩ (fun H locs hP hD hS => ?_)
          refine lv_if_ne (tgt := 40) hx hb dX5_spell_35 (by decide) (fun c27 => ?_) (fun c27 => ?_)
          · replace h := ifn c27 h
            refine lv_aload_n hx hb dX5_spell_40 rfl (lv_at hl 0 rfl) ?_
            refine lv_aload_n hx hb dX5_spell_41 rfl (lv_at hl 0 rfl) ?_
            replace h := bd h
            obtain ⟨x28, q29, h⟩ := h
            refine fg_4_0 hx hb hts hown hK hP wd_196 q29 dX5_spell_42 ?_
            refine lv_iload_n hx hb dX5_spell_45 rfl (lv_at hl 2 rfl) ?_
            replace h := bd h
            obtain ⟨x30, q31, h⟩ := h
            refine r_aI hx hb hK hP q31 dX5_spell_46 ?_
            replace h := bd h
            obtain ⟨_, q32, h⟩ := h
            replace h := bd h
            obtain ⟨z34, q33, h⟩ := h
            refine c_X5_accept ⟨hx, hb, hml, hown, hts⟩ hl.1 hK hP hD hA hS wd_247 ⟨(Nat.le_of_ble_eq_true rfl), (Nat.le_of_ble_eq_true rfl)⟩ q33 q32 (Nat.le_of_ble_eq_true rfl) dX5_spell_47 ⟨(Nat.le_of_ble_eq_true rfl), (Nat.le_of_ble_eq_true rfl)⟩ (fun H locs hP hD hS => ?_)
            refine lv_if_ne (tgt := 55) hx hb dX5_spell_50 (by decide) (fun c35 => ?_) (fun c35 => ?_)
            · replace h := ifn c35 h
              refine lv_iinc (v := (y11_2 + 1)) (lv' := [(2, .int (y11_2 + 1)), (0, .ref y11_0), (1, .ref y11_1)]) hx hb dX5_spell_55 hl (k := 2) rfl rfl (by decide) rfl (fun ls hl => ?_)
              refine lv_goto (tgt := 11) hx hb dX5_spell_58 (by decide) ?_
              exact ih z34.2 (y11_2 + 1) _ h _ _ _ hP hD hS (lv_sub hl [1, 2, 0] rfl) hret hexit
            · replace h := ifp c35 h
              refine lv_iconst (v := 0) hx hb dX5_spell_53 (by decide) ?_
              cases h
              have h := hret _ rfl
              cases h
              exact e_zm hx hb hlocks (by decide) hr hP hD hS (Nat.le_of_ble_eq_true rfl) (Nat.le_of_ble_eq_true rfl) dX5_spell_54
          · replace h := ifp c27 h
            refine lv_iconst (v := 0) hx hb dX5_spell_38 (by decide) ?_
            cases h
            have h := hret _ rfl
            cases h
            exact e_zm hx hb hlocks (by decide) hr hP hD hS (Nat.le_of_ble_eq_true rfl) (Nat.le_of_ble_eq_true rfl) dX5_spell_39
  replace h := bd h
  obtain ⟨z6, q36, h⟩ := h
  refine L11 a0 a1 FU Z4 0 z6 q36 _ _ _ hP hD hS (lv_sub hl [1, 2, 0] rfl) (fun y hy => by
    replace h := sel_l hy h
    cases h
    rfl) (fun t11_6 hy H locs ls hP hD hS hl => ?_)
  replace h := sel_r hy h
  refine lv_aload_n hx hb dX5_spell_61 rfl (lv_at hl 0 rfl) ?_
  refine lv_aload_n hx hb dX5_spell_62 rfl (lv_at hl 1 rfl) ?_
  replace h := bd h
  obtain ⟨_, q37, h⟩ := h
  replace h := bd h
  obtain ⟨z39, q38, h⟩ := h
  refine c_X5_endPart ⟨hx, hb, hml, hown, hts⟩ hl.1 hK hP hD hA hS wd_624 ⟨(Nat.le_of_ble_eq_true rfl), (Nat.le_of_ble_eq_true rfl)⟩ q38 q37 (Nat.le_of_ble_eq_true rfl) dX5_spell_63 ⟨(Nat.le_of_ble_eq_true rfl), (Nat.le_of_ble_eq_true rfl)⟩ (fun H locs hP hD hS => ?_)
  replace h := bd h
  obtain ⟨_, q40, h⟩ := h
  cases h
  exact e_zm hx hb hlocks (zz_spec q40) hr hP hD hS (Nat.le_of_ble_eq_true rfl) (Nat.le_of_ble_eq_true rfl) dX5_spell_66
set_option maxRecDepth 100000 in
theorem c_X5_spell {p : Program} {l : Launch} {e : Env} {R : Room} {s : State} {m : MethodId} {args : Array Value} {below : List Frame} {meth : Method} {c : Code} {H : Heap} {locs : List Loc} {cells slots : Nat} {Q : State → Prop} {cc : ByteArray} {pc index nL : Nat} {ls : Array Slot} {rest : List Value} {D : va_G} {cy : Nat → ClassId} {A0 : Nat → Prop} {S : St} {H0 : Heap} {own : String} {u : Unit} {a0 : Nat} {a1 : Nat} {r : Int32} {S1 : St}  (hF : CallFix p m c cc nL s args ALLW own) (hsz : ls.size = nL) (hK : va_K D vwCl (tyL cy) s) (hP : SP D cy S H) (hD : ∀ a, S a ≠ none → A0 a) (hA : ∀ q, H0.size ≤ q → A0 q) (hS : va_S A0 H0 H locs) (hk : Cond.methodLink own index yX5_spell ∈ ALLW) (hR : rm_X5_spell.frames + 1 ≤ R.frames ∧ 8 + (3 + 11) + rm_X5_spell.locals ≤ R.locals) (h : f_X5_spell S a0 a1 = some (r, S1)) (hc : oO S a0 4 = some u) (hW : (rest.map fun v => v.category).sum ≤ 8) (hdg : decode cc pc = .ok (.invokevirtual index, 3)) (hf : cells + 0 ≤ R.cells ∧ slots + 0 ≤ R.slots)
    (kk : ∀ (H1 : Heap) (locs1 : List Loc), SP D cy S1 H1 → (∀ a, S1 a ≠ none → A0 a) → va_S A0 H0 H1 locs1 → W p l e R s m args below meth c H1 locs1 (cells + 0) (slots + 0) Q (F0 m (pc + 3) ls (.int r :: rest))) : W p l e R s m args below meth c H locs cells slots Q (F0 m pc ls (.ref a1 :: .ref a0 :: rest)) := by
  exact k_iVm (As := [.ref a1]) hF hsz (m_X5_spell l D cy H.size S a0 a1 r S1 h) (cwV_of (n := 1) hF.2.2.2.2 hk wd_620 wd_621 wd_74 wd_622 rfl rfl (by decide +kernel) hR) rfl hK hP hD hA hS (ci := 4) hc rfl hW rfl hdg hf kk
/-- VowBlocks$RowText.empty()V -/
def f_X5_empty (S : St) (a0 : Nat) : Option (St) :=
  (pI S a0 4 1 0).bind fun Z1 =>
  some Z1
abbrev rm_X5_empty : Room := { frames := 0, cells := 0, slots := 0, locals := 0 }
set_option maxHeartbeats 4000000 in
set_option maxRecDepth 100000 in
theorem m_X5_empty (l : Launch) (D : va_G) (cy : Nat → ClassId) (sz : Nat) (S : St) (a0 : Nat) (S1 : St) (h : f_X5_empty S a0 = some S1) : Met l yX5_empty (wsA yX5_empty cX5_empty 1 none) rm_X5_empty (va_Pc [.ref a0] (PN D cy S sz)) (va_Qv (fun _ : Unit => True) (fun _ t => PoS D cy S1 (dm S sz) t) (dm S sz)) 0 0 (dm S sz) := by
  refine Met.ofW (cc := cX5_empty) (maxL := 1) (ret := none) (by decide) rfl ?_
  intro p e s m args below meth c s₁ B hml hv
  obtain ⟨rfl, hsz, hP, hK⟩ := hv
  have hx := B.exec
  have hb := B.bytes
  have hr := B.returns
  have hts9 := atoms_spec (ws := wsA yX5_empty cX5_empty 1 none) B.pre
  have hts : ∀ w ∈ ALLW, w.before _ s = true := fun w h => hts9 w (List.mem_cons_of_mem _ h)
  have hown : s.vm.findClass RX5 = some m.cls := findClass_of_methodNamed B.named
  have hlocks := B.notSynchronized
  subst hsz
  have hD : ∀ a, S a ≠ none → dm S s.heap.size a := fun a h => Or.inl h
  have hA : ∀ q : Nat, s.heap.size ≤ q → dm S s.heap.size q := fun q h => Or.inr h
  have hS : va_S (dm S s.heap.size) s.heap s.heap [] := va_S.rf
  have hl := lv_entry [.ref a0] (n := 1) (Nat.le_of_ble_eq_true rfl)
  rw [lg_entry_eq]
  generalize (lg_sl [.ref a0] ++ List.replicate (1 - (lg_sl [.ref a0]).length) Slot.unset).toArray = ls at hl ⊢
  have hl : lv_has ls 1 [(0, .ref a0)] := hl
  rw [f_X5_empty] at h
  refine lv_aload_n hx hb dX5_empty_0 rfl (lv_at hl 0 rfl) ?_
  refine lv_iconst (v := 0) hx hb dX5_empty_1 (by decide) ?_
  replace h := bd h
  obtain ⟨Z1, q2, h⟩ := h
  refine fp_4_1 hx hb hts hown hK hP hD hS wd_197 q2 dX5_empty_2 (fun H locs hz9 hP hD hS => ?_)
  cases h
  exact e_vm hx hb hlocks hr hP hD hS (Nat.le_of_ble_eq_true rfl) (Nat.le_of_ble_eq_true rfl) dX5_empty_5
set_option maxRecDepth 100000 in
theorem c_X5_empty {p : Program} {l : Launch} {e : Env} {R : Room} {s : State} {m : MethodId} {args : Array Value} {below : List Frame} {meth : Method} {c : Code} {H : Heap} {locs : List Loc} {cells slots : Nat} {Q : State → Prop} {cc : ByteArray} {pc index nL : Nat} {ls : Array Slot} {rest : List Value} {D : va_G} {cy : Nat → ClassId} {A0 : Nat → Prop} {S : St} {H0 : Heap} {own : String} {u : Unit} {a0 : Nat} {S1 : St}  (hF : CallFix p m c cc nL s args ALLW own) (hsz : ls.size = nL) (hK : va_K D vwCl (tyL cy) s) (hP : SP D cy S H) (hD : ∀ a, S a ≠ none → A0 a) (hA : ∀ q, H0.size ≤ q → A0 q) (hS : va_S A0 H0 H locs) (hk : Cond.methodLink own index yX5_empty ∈ ALLW) (hR : rm_X5_empty.frames + 1 ≤ R.frames ∧ 8 + (1 + 11) + rm_X5_empty.locals ≤ R.locals) (h : f_X5_empty S a0 = some S1) (hc : oO S a0 4 = some u) (hW : (rest.map fun v => v.category).sum ≤ 8) (hdg : decode cc pc = .ok (.invokevirtual index, 3)) (hf : cells + 0 ≤ R.cells ∧ slots + 0 ≤ R.slots)
    (kk : ∀ (H1 : Heap) (locs1 : List Loc), SP D cy S1 H1 → (∀ a, S1 a ≠ none → A0 a) → va_S A0 H0 H1 locs1 → W p l e R s m args below meth c H1 locs1 (cells + 0) (slots + 0) Q (F0 m (pc + 3) ls (rest))) : W p l e R s m args below meth c H locs cells slots Q (F0 m pc ls (.ref a0 :: rest)) := by
  exact k_vVm (As := []) hF hsz (m_X5_empty l D cy H.size S a0 S1 h) (cwV_of (n := 0) hF.2.2.2.2 hk wd_236 wd_237 wd_74 wd_238 rfl rfl (by decide +kernel) hR) rfl hK hP hD hA hS (ci := 4) hc rfl hW rfl hdg hf kk
/-- VowBlocks$RowText.isFull()Z -/
def f_X5_isFull (S : St) (a0 : Nat) : Option (Int32) :=
  (gI S a0 4 1).bind fun x1 =>
  (gR S a0 4 0).bind fun x3 =>
  (aN S x3 0).bind fun x5 =>
  (
    if x1 < x5 then
      some 0
    else
      some 1
  : Option (Int32)).bind fun t7 =>
  (zz t7).bind fun _ =>
  some t7
abbrev rm_X5_isFull : Room := { frames := 0, cells := 0, slots := 0, locals := 0 }
set_option maxHeartbeats 4000000 in
set_option maxRecDepth 100000 in
theorem m_X5_isFull (l : Launch) (D : va_G) (cy : Nat → ClassId) (S : St) (a0 : Nat) (r : Int32) (h : f_X5_isFull S a0 = some r) : Met l yX5_isFull (wsA yX5_isFull cX5_isFull 1 (some .boolean)) rm_X5_isFull (va_Pc [.ref a0] (PS D cy S)) (va_Qi (fun r' (_ : Unit) => r' = r) (fun _ _ => True) noA) 0 0 noA := by
  refine Met.ofW (cc := cX5_isFull) (maxL := 1) (ret := (some .boolean)) (by decide) rfl ?_
  intro p e s m args below meth c s₁ B hml hv
  obtain ⟨rfl, hP, hK⟩ := hv
  have hx := B.exec
  have hb := B.bytes
  have hr := B.returns
  have hts9 := atoms_spec (ws := wsA yX5_isFull cX5_isFull 1 (some .boolean)) B.pre
  have hts : ∀ w ∈ ALLW, w.before _ s = true := fun w h => hts9 w (List.mem_cons_of_mem _ h)
  have hown : s.vm.findClass RX5 = some m.cls := findClass_of_methodNamed B.named
  have hlocks := B.notSynchronized
  have hS : va_S noA s.heap s.heap [] := va_S.rf
  have hl := lv_entry [.ref a0] (n := 1) (Nat.le_of_ble_eq_true rfl)
  rw [lg_entry_eq]
  generalize (lg_sl [.ref a0] ++ List.replicate (1 - (lg_sl [.ref a0]).length) Slot.unset).toArray = ls at hl ⊢
  have hl : lv_has ls 1 [(0, .ref a0)] := hl
  rw [f_X5_isFull] at h
  refine lv_aload_n hx hb dX5_isFull_0 rfl (lv_at hl 0 rfl) ?_
  replace h := bd h
  obtain ⟨x1, q2, h⟩ := h
  refine fg_4_1 hx hb hts hown hK hP wd_197 q2 dX5_isFull_1 ?_
  refine lv_aload_n hx hb dX5_isFull_4 rfl (lv_at hl 0 rfl) ?_
  replace h := bd h
  obtain ⟨x3, q4, h⟩ := h
  refine fg_4_0 hx hb hts hown hK hP wd_196 q4 dX5_isFull_5 ?_
  replace h := bd h
  obtain ⟨x5, q6, h⟩ := h
  refine r_aN hx hb hK hP (t := 0) rfl q6 dX5_isFull_8 ?_
  replace h := bd h
  obtain ⟨t7, ht, h⟩ := h
  have K7 : ∀ (H : Heap) (locs : List Loc) (ls : Array Slot), SP D cy S H → va_S noA s.heap H locs → lv_has ls 1 [] → W p l e rm_X5_isFull s m ([.ref a0] : List Value).toArray below meth c H locs 0 0 (MQ below (va_Qi (fun r' (_ : Unit) => r' = r) (fun _ _ => True) noA) ([.ref a0] : List Value).toArray s 0 0 noA) (F0 m 17 ls [.int t7]) := by
    intro H locs ls hP hS hl
    replace h := bd h
    obtain ⟨_, q9, h⟩ := h
    cases h
    exact e_zp hx hb hlocks (zz_spec q9) hr hS (Nat.le_of_ble_eq_true rfl) (Nat.le_of_ble_eq_true rfl) dX5_isFull_17
  replace h := ht
  refine lv_icmp_lt (tgt := 16) hx hb dX5_isFull_9 (by decide) (fun c8 => ?_) (fun c8 => ?_)
  · replace h := ifp c8 h
    refine lv_iconst (v := 0) hx hb dX5_isFull_16 (by decide) ?_
    cases h
    exact K7 _ _ _ hP hS (lv_sub hl [] rfl)
  · replace h := ifn c8 h
    refine lv_iconst (v := 1) hx hb dX5_isFull_12 (by decide) ?_
    refine lv_goto (tgt := 17) hx hb dX5_isFull_13 (by decide) ?_
    cases h
    exact K7 _ _ _ hP hS (lv_sub hl [] rfl)
set_option maxRecDepth 100000 in
theorem c_X5_isFull {p : Program} {l : Launch} {e : Env} {R : Room} {s : State} {m : MethodId} {args : Array Value} {below : List Frame} {meth : Method} {c : Code} {H : Heap} {locs : List Loc} {cells slots : Nat} {Q : State → Prop} {cc : ByteArray} {pc index nL : Nat} {ls : Array Slot} {rest : List Value} {D : va_G} {cy : Nat → ClassId} {A0 : Nat → Prop} {S : St} {H0 : Heap} {own : String} {u : Unit} {a0 : Nat} {r : Int32}  (hF : CallFix p m c cc nL s args ALLW own) (hsz : ls.size = nL) (hK : va_K D vwCl (tyL cy) s) (hP : SP D cy S H) (hS : va_S A0 H0 H locs) (hk : Cond.methodLink own index yX5_isFull ∈ ALLW) (hR : rm_X5_isFull.frames + 1 ≤ R.frames ∧ 8 + (1 + 11) + rm_X5_isFull.locals ≤ R.locals) (h : f_X5_isFull S a0 = some r) (hc : oO S a0 4 = some u) (hW : (rest.map fun v => v.category).sum ≤ 8) (hdg : decode cc pc = .ok (.invokevirtual index, 3)) (hf : cells + 0 ≤ R.cells ∧ slots + 0 ≤ R.slots)
    (kk : ∀ (H1 : Heap) (locs1 : List Loc), SP D cy S H1 → va_S A0 H0 H1 locs1 → W p l e R s m args below meth c H1 locs1 (cells + 0) (slots + 0) Q (F0 m (pc + 3) ls (.int r :: rest))) : W p l e R s m args below meth c H locs cells slots Q (F0 m pc ls (.ref a0 :: rest)) := by
  exact k_iVp (As := []) hF hsz (m_X5_isFull l D cy S a0 r h) (cwV_of (n := 0) hF.2.2.2.2 hk wd_790 wd_791 wd_74 wd_792 rfl rfl (by decide +kernel) hR) rfl hK hP hS (ci := 4) hc rfl hW rfl hdg hf kk
/-- VowBlocks$RowText.push(I)V -/
def f_X5_push (S : St) (a0 : Nat) (a1 : Int32) : Option (St) :=
  (oO S a0 4).bind fun _ =>
  (f_X5_isFull S a0).bind fun x3 =>
  (
    if x3 = 0 then
      (gR S a0 4 0).bind fun x6 =>
      (gI S a0 4 1).bind fun x8 =>
      (sI S x6 x8 a1).bind fun Z10 =>
      (gI Z10 a0 4 1).bind fun x12 =>
      (pI Z10 a0 4 1 (x12 + 1)).bind fun Z14 =>
      some Z14
    else
      some S
  : Option (St)).bind fun t4 =>
  some t4
abbrev rm_X5_push : Room := { frames := 1, cells := 0, slots := 0, locals := 20 }
set_option maxHeartbeats 4000000 in
set_option maxRecDepth 100000 in
theorem m_X5_push (l : Launch) (D : va_G) (cy : Nat → ClassId) (sz : Nat) (S : St) (a0 : Nat) (a1 : Int32) (S1 : St) (h : f_X5_push S a0 a1 = some S1) : Met l yX5_push (wsA yX5_push cX5_push 2 none) rm_X5_push (va_Pc [.ref a0, .int a1] (PN D cy S sz)) (va_Qv (fun _ : Unit => True) (fun _ t => PoS D cy S1 (dm S sz) t) (dm S sz)) 0 0 (dm S sz) := by
  refine Met.ofW (cc := cX5_push) (maxL := 2) (ret := none) (by decide) rfl ?_
  intro p e s m args below meth c s₁ B hml hv
  obtain ⟨rfl, hsz, hP, hK⟩ := hv
  have hx := B.exec
  have hb := B.bytes
  have hr := B.returns
  have hts9 := atoms_spec (ws := wsA yX5_push cX5_push 2 none) B.pre
  have hts : ∀ w ∈ ALLW, w.before _ s = true := fun w h => hts9 w (List.mem_cons_of_mem _ h)
  have hown : s.vm.findClass RX5 = some m.cls := findClass_of_methodNamed B.named
  have hlocks := B.notSynchronized
  subst hsz
  have hD : ∀ a, S a ≠ none → dm S s.heap.size a := fun a h => Or.inl h
  have hA : ∀ q : Nat, s.heap.size ≤ q → dm S s.heap.size q := fun q h => Or.inr h
  have hS : va_S (dm S s.heap.size) s.heap s.heap [] := va_S.rf
  have hl := lv_entry [.ref a0, .int a1] (n := 2) (Nat.le_of_ble_eq_true rfl)
  rw [lg_entry_eq]
  generalize (lg_sl [.ref a0, .int a1] ++ List.replicate (2 - (lg_sl [.ref a0, .int a1]).length) Slot.unset).toArray = ls at hl ⊢
  have hl : lv_has ls 2 [(0, .ref a0), (1, .int a1)] := hl
  rw [f_X5_push] at h
  refine lv_aload_n hx hb dX5_push_0 rfl (lv_at hl 0 rfl) ?_
  replace h := bd h
  obtain ⟨_, q1, h⟩ := h
  replace h := bd h
  obtain ⟨x3, q2, h⟩ := h
  refine c_X5_isFull ⟨hx, hb, hml, hown, hts⟩ hl.1 hK hP hS wd_798 ⟨(Nat.le_of_ble_eq_true rfl), (Nat.le_of_ble_eq_true rfl)⟩ q2 q1 (Nat.le_of_ble_eq_true rfl) dX5_push_1 ⟨(Nat.le_of_ble_eq_true rfl), (Nat.le_of_ble_eq_true rfl)⟩ (fun H locs hP hS => ?_)
  replace h := bd h
  obtain ⟨t4, ht, h⟩ := h
  have K4 : ∀ (H : Heap) (locs : List Loc) (ls : Array Slot), SP D cy t4 H → (∀ a, t4 a ≠ none → (dm S s.heap.size) a) → va_S (dm S s.heap.size) s.heap H locs → lv_has ls 2 [] → W p l e rm_X5_push s m ([.ref a0, .int a1] : List Value).toArray below meth c H locs 0 0 (MQ below (va_Qv (fun _ : Unit => True) (fun _ t => PoS D cy S1 (dm S s.heap.size) t) (dm S s.heap.size)) ([.ref a0, .int a1] : List Value).toArray s 0 0 (dm S s.heap.size)) (F0 m 27 ls []) := by
    intro H locs ls hP hD hS hl
    cases h
    exact e_vm hx hb hlocks hr hP hD hS (Nat.le_of_ble_eq_true rfl) (Nat.le_of_ble_eq_true rfl) dX5_push_27
  replace h := ht
  refine lv_if_ne (tgt := 27) hx hb dX5_push_4 (by decide) (fun c5 => ?_) (fun c5 => ?_)
  · replace h := ifn c5 h
    cases h
    exact K4 _ _ _ hP hD hS (lv_sub hl [] rfl)
  · replace h := ifp c5 h
    refine lv_aload_n hx hb dX5_push_7 rfl (lv_at hl 0 rfl) ?_
    replace h := bd h
    obtain ⟨x6, q7, h⟩ := h
    refine fg_4_0 hx hb hts hown hK hP wd_196 q7 dX5_push_8 ?_
    refine lv_aload_n hx hb dX5_push_11 rfl (lv_at hl 0 rfl) ?_
    replace h := bd h
    obtain ⟨x8, q9, h⟩ := h
    refine fg_4_1 hx hb hts hown hK hP wd_197 q9 dX5_push_12 ?_
    refine lv_iload_n hx hb dX5_push_15 rfl (lv_at hl 1 rfl) ?_
    replace h := bd h
    obtain ⟨Z10, q11, h⟩ := h
    refine r_sI hx hb hK hP hD hS q11 dX5_push_16 (fun H locs hz9 hP hD hS => ?_)
    refine lv_aload_n hx hb dX5_push_17 rfl (lv_at hl 0 rfl) ?_
    refine lv_dup hx hb dX5_push_18 rfl ?_
    replace h := bd h
    obtain ⟨x12, q13, h⟩ := h
    refine fg_4_1 hx hb hts hown hK hP wd_197 q13 dX5_push_19 ?_
    refine lv_iconst (v := 1) hx hb dX5_push_22 (by decide) ?_
    refine lv_iadd hx hb dX5_push_23 ?_
    replace h := bd h
    obtain ⟨Z14, q15, h⟩ := h
    refine fp_4_1 hx hb hts hown hK hP hD hS wd_197 q15 dX5_push_24 (fun H locs hz9 hP hD hS => ?_)
    cases h
    exact K4 _ _ _ hP hD hS (lv_sub hl [] rfl)
set_option maxRecDepth 100000 in
theorem c_X5_push {p : Program} {l : Launch} {e : Env} {R : Room} {s : State} {m : MethodId} {args : Array Value} {below : List Frame} {meth : Method} {c : Code} {H : Heap} {locs : List Loc} {cells slots : Nat} {Q : State → Prop} {cc : ByteArray} {pc index nL : Nat} {ls : Array Slot} {rest : List Value} {D : va_G} {cy : Nat → ClassId} {A0 : Nat → Prop} {S : St} {H0 : Heap} {own : String} {u : Unit} {a0 : Nat} {a1 : Int32} {S1 : St}  (hF : CallFix p m c cc nL s args ALLW own) (hsz : ls.size = nL) (hK : va_K D vwCl (tyL cy) s) (hP : SP D cy S H) (hD : ∀ a, S a ≠ none → A0 a) (hA : ∀ q, H0.size ≤ q → A0 q) (hS : va_S A0 H0 H locs) (hk : Cond.methodLink own index yX5_push ∈ ALLW) (hR : rm_X5_push.frames + 1 ≤ R.frames ∧ 8 + (2 + 11) + rm_X5_push.locals ≤ R.locals) (h : f_X5_push S a0 a1 = some S1) (hc : oO S a0 4 = some u) (hW : (rest.map fun v => v.category).sum ≤ 8) (hdg : decode cc pc = .ok (.invokevirtual index, 3)) (hf : cells + 0 ≤ R.cells ∧ slots + 0 ≤ R.slots)
    (kk : ∀ (H1 : Heap) (locs1 : List Loc), SP D cy S1 H1 → (∀ a, S1 a ≠ none → A0 a) → va_S A0 H0 H1 locs1 → W p l e R s m args below meth c H1 locs1 (cells + 0) (slots + 0) Q (F0 m (pc + 3) ls (rest))) : W p l e R s m args below meth c H locs cells slots Q (F0 m pc ls (.int a1 :: .ref a0 :: rest)) := by
  exact k_vVm (As := [.int a1]) hF hsz (m_X5_push l D cy H.size S a0 a1 S1 h) (cwV_of (n := 1) hF.2.2.2.2 hk wd_795 wd_796 wd_74 wd_797 rfl rfl (by decide +kernel) hR) rfl hK hP hD hA hS (ci := 4) hc rfl hW rfl hdg hf kk
/-- VowBlocks$RowText.length()I -/
def f_X5_length (S : St) (a0 : Nat) : Option (Int32) :=
  (gI S a0 4 1).bind fun x1 =>
  some x1
abbrev rm_X5_length : Room := { frames := 0, cells := 0, slots := 0, locals := 0 }
set_option maxHeartbeats 4000000 in
set_option maxRecDepth 100000 in
theorem m_X5_length (l : Launch) (D : va_G) (cy : Nat → ClassId) (S : St) (a0 : Nat) (r : Int32) (h : f_X5_length S a0 = some r) : Met l yX5_length (wsA yX5_length cX5_length 1 (some .int)) rm_X5_length (va_Pc [.ref a0] (PS D cy S)) (va_Qi (fun r' (_ : Unit) => r' = r) (fun _ _ => True) noA) 0 0 noA := by
  refine Met.ofW (cc := cX5_length) (maxL := 1) (ret := (some .int)) (by decide) rfl ?_
  intro p e s m args below meth c s₁ B hml hv
  obtain ⟨rfl, hP, hK⟩ := hv
  have hx := B.exec
  have hb := B.bytes
  have hr := B.returns
  have hts9 := atoms_spec (ws := wsA yX5_length cX5_length 1 (some .int)) B.pre
  have hts : ∀ w ∈ ALLW, w.before _ s = true := fun w h => hts9 w (List.mem_cons_of_mem _ h)
  have hown : s.vm.findClass RX5 = some m.cls := findClass_of_methodNamed B.named
  have hlocks := B.notSynchronized
  have hS : va_S noA s.heap s.heap [] := va_S.rf
  have hl := lv_entry [.ref a0] (n := 1) (Nat.le_of_ble_eq_true rfl)
  rw [lg_entry_eq]
  generalize (lg_sl [.ref a0] ++ List.replicate (1 - (lg_sl [.ref a0]).length) Slot.unset).toArray = ls at hl ⊢
  have hl : lv_has ls 1 [(0, .ref a0)] := hl
  rw [f_X5_length] at h
  refine lv_aload_n hx hb dX5_length_0 rfl (lv_at hl 0 rfl) ?_
  replace h := bd h
  obtain ⟨x1, q2, h⟩ := h
  refine fg_4_1 hx hb hts hown hK hP wd_197 q2 dX5_length_1 ?_
  cases h
  exact e_ip hx hb hlocks hr hS (Nat.le_of_ble_eq_true rfl) (Nat.le_of_ble_eq_true rfl) dX5_length_4
set_option maxRecDepth 100000 in
theorem c_X5_length {p : Program} {l : Launch} {e : Env} {R : Room} {s : State} {m : MethodId} {args : Array Value} {below : List Frame} {meth : Method} {c : Code} {H : Heap} {locs : List Loc} {cells slots : Nat} {Q : State → Prop} {cc : ByteArray} {pc index nL : Nat} {ls : Array Slot} {rest : List Value} {D : va_G} {cy : Nat → ClassId} {A0 : Nat → Prop} {S : St} {H0 : Heap} {own : String} {u : Unit} {a0 : Nat} {r : Int32}  (hF : CallFix p m c cc nL s args ALLW own) (hsz : ls.size = nL) (hK : va_K D vwCl (tyL cy) s) (hP : SP D cy S H) (hS : va_S A0 H0 H locs) (hk : Cond.methodLink own index yX5_length ∈ ALLW) (hR : rm_X5_length.frames + 1 ≤ R.frames ∧ 8 + (1 + 11) + rm_X5_length.locals ≤ R.locals) (h : f_X5_length S a0 = some r) (hc : oO S a0 4 = some u) (hW : (rest.map fun v => v.category).sum ≤ 8) (hdg : decode cc pc = .ok (.invokevirtual index, 3)) (hf : cells + 0 ≤ R.cells ∧ slots + 0 ≤ R.slots)
    (kk : ∀ (H1 : Heap) (locs1 : List Loc), SP D cy S H1 → va_S A0 H0 H1 locs1 → W p l e R s m args below meth c H1 locs1 (cells + 0) (slots + 0) Q (F0 m (pc + 3) ls (.int r :: rest))) : W p l e R s m args below meth c H locs cells slots Q (F0 m pc ls (.ref a0 :: rest)) := by
  exact k_iVp (As := []) hF hsz (m_X5_length l D cy S a0 r h) (cwV_of (n := 0) hF.2.2.2.2 hk wd_232 wd_233 wd_74 wd_234 rfl rfl (by decide +kernel) hR) rfl hK hP hS (ci := 4) hc rfl hW rfl hdg hf kk
/-- VowBlocks$RowText.errorPlace()I -/
def f_X5_errorPlace_L7 (y7_0 : Nat) : Nat → St → Int32 →  Option ((Int32 × St) ⊕ (St))
  | 0, _, _ => none
  | fu + 1, S7_, y7_1 =>
    (gI S7_ y7_0 4 1).bind fun x5 =>
    if x5 ≤ y7_1 then
      some (.inr S7_)
    else
      (gR S7_ y7_0 4 0).bind fun x8 =>
      (aI S7_ x8 y7_1).bind fun x10 =>
      (oO S7_ y7_0 4).bind fun _ =>
      (f_X5_accept S7_ y7_0 x10).bind fun z14 =>
      if z14.1 = 0 then
        some (.inl (y7_1, z14.2))
      else
        f_X5_errorPlace_L7 y7_0 fu z14.2 (y7_1 + 1)
def f_X5_errorPlace (S : St) (a0 : Nat) : Option (Int32 × St) :=
  (pI S a0 4 2 0).bind fun Z1 =>
  (f_X5_errorPlace_L7 a0 FU Z1 0).bind fun z3 =>
  Sum.elim (fun y => some y) (fun t7_3 =>
  (gI t7_3 a0 4 1).bind fun x17 =>
  some (x17, t7_3)
  ) z3
abbrev rm_X5_errorPlace : Room := { frames := 2, cells := 0, slots := 0, locals := 42 }
set_option maxHeartbeats 4000000 in
set_option maxRecDepth 100000 in
theorem m_X5_errorPlace (l : Launch) (D : va_G) (cy : Nat → ClassId) (sz : Nat) (S : St) (a0 : Nat) (r : Int32) (S1 : St) (h : f_X5_errorPlace S a0 = some (r, S1)) : Met l yX5_errorPlace (wsA yX5_errorPlace cX5_errorPlace 2 (some .int)) rm_X5_errorPlace (va_Pc [.ref a0] (PN D cy S sz)) (va_Qi (fun r' (_ : Unit) => r' = r) (fun _ t => PoS D cy S1 (dm S sz) t) (dm S sz)) 0 0 (dm S sz) := by
  refine Met.ofW (cc := cX5_errorPlace) (maxL := 2) (ret := (some .int)) (by decide) rfl ?_
  intro p e s m args below meth c s₁ B hml hv
  obtain ⟨rfl, hsz, hP, hK⟩ := hv
  have hx := B.exec
  have hb := B.bytes
  have hr := B.returns
  have hts9 := atoms_spec (ws := wsA yX5_errorPlace cX5_errorPlace 2 (some .int)) B.pre
  have hts : ∀ w ∈ ALLW, w.before _ s = true := fun w h => hts9 w (List.mem_cons_of_mem _ h)
  have hown : s.vm.findClass RX5 = some m.cls := findClass_of_methodNamed B.named
  have hlocks := B.notSynchronized
  subst hsz
  have hD : ∀ a, S a ≠ none → dm S s.heap.size a := fun a h => Or.inl h
  have hA : ∀ q : Nat, s.heap.size ≤ q → dm S s.heap.size q := fun q h => Or.inr h
  have hS : va_S (dm S s.heap.size) s.heap s.heap [] := va_S.rf
  have hl := lv_entry [.ref a0] (n := 2) (Nat.le_of_ble_eq_true rfl)
  rw [lg_entry_eq]
  generalize (lg_sl [.ref a0] ++ List.replicate (2 - (lg_sl [.ref a0]).length) Slot.unset).toArray = ls at hl ⊢
  have hl : lv_has ls 2 [(0, .ref a0)] := hl
  rw [f_X5_errorPlace] at h
  refine lv_aload_n hx hb dX5_errorPlace_0 rfl (lv_at hl 0 rfl) ?_
  refine lv_iconst (v := 0) hx hb dX5_errorPlace_1 (by decide) ?_
  replace h := bd h
  obtain ⟨Z1, q2, h⟩ := h
  refine fp_4_2 hx hb hts hown hK hP hD hS wd_198 q2 dX5_errorPlace_2 (fun H locs hz9 hP hD hS => ?_)
  refine lv_iconst (v := 0) hx hb dX5_errorPlace_5 (by decide) ?_
  refine lv_istore_n (lv' := [(1, .int 0), (0, .ref a0)]) hx hb dX5_errorPlace_6 rfl hl (by decide) rfl (fun ls hl => ?_)
  have L7 : ∀ (y7_0 : Nat) (fu : Nat) (S7_ : St) (y7_1 : Int32) (res : (Int32 × St) ⊕ (St)), f_X5_errorPlace_L7 y7_0 fu S7_ y7_1 = some res → ∀ (H : Heap) (locs : List Loc) (ls : Array Slot), SP D cy S7_ H → (∀ a, S7_ a ≠ none → (dm S s.heap.size) a) → va_S (dm S s.heap.size) s.heap H locs → lv_has ls 2 [(0, .ref y7_0), (1, .int y7_1)] → (∀ y : Int32 × St, res = .inl y → y = (r, S1)) → (∀ t7_3 : St, res = .inr t7_3 → ∀ (H : Heap) (locs : List Loc) (ls : Array Slot), SP D cy t7_3 H → (∀ a, t7_3 a ≠ none → (dm S s.heap.size) a) → va_S (dm S s.heap.size) s.heap H locs → lv_has ls 2 [(0, .ref y7_0)] → W p l e rm_X5_errorPlace s m ([.ref a0] : List Value).toArray below meth c H locs 0 0 (MQ below (va_Qi (fun r' (_ : Unit) => r' = r) (fun _ t => PoS D cy S1 (dm S s.heap.size) t) (dm S s.heap.size)) ([.ref a0] : List Value).toArray s 0 0 (dm S s.heap.size)) (F0 m 36 ls [])) → W p l e rm_X5_errorPlace s m ([.ref a0] : List Value).toArray below meth c H locs 0 0 (MQ below (va_Qi (fun r' (_ : Unit) => r' = r) (fun _ t => PoS D cy S1 (dm S s.heap.size) t) (dm S s.heap.size)) ([.ref a0] : List Value).toArray s 0 0 (dm S s.heap.size)) (F0 m 7 ls []) := by
    intro y7_0 fu
    induction fu with
    | zero =>
      intro S7_ y7_1 res h
      rw [f_X5_errorPlace_L7] at h
      cases h
    | succ fu ih =>
      intro S7_ y7_1 res h H locs ls hP hD hS hl hret hexit
      rw [f_X5_errorPlace_L7] at h
      refine lv_iload_n hx hb dX5_errorPlace_7 rfl (lv_at hl 1 rfl) ?_
      refine lv_aload_n hx hb dX5_errorPlace_8 rfl (lv_at hl 0 rfl) ?_
      replace h := bd h
      obtain ⟨x5, q6, h⟩ := h
      refine fg_4_1 hx hb hts hown hK hP wd_197 q6 dX5_errorPlace_9 ?_
      refine lv_icmp_ge (tgt := 36) hx hb dX5_errorPlace_12 (by decide) (fun c7 => ?_) (fun c7 => ?_)
      · replace h := ifp c7 h
        cases h
        exact hexit _ rfl _ _ _ hP hD hS (lv_sub hl [0] rfl)
      · replace h := ifn c7 h
        refine lv_aload_n hx hb dX5_errorPlace_15 rfl (lv_at hl 0 rfl) ?_
        refine lv_aload_n hx hb dX5_errorPlace_16 rfl (lv_at hl 0 rfl) ?_
        replace h := bd h
        obtain ⟨x8, q9, h⟩ := h
        refine fg_4_0 hx hb hts hown hK hP wd_196 q9 dX5_errorPlace_17 ?_
        refine lv_iload_n hx hb dX5_errorPlace_20 rfl (lv_at hl 1 rfl) ?_
        replace h := bd h
        obtain ⟨x10, q11, h⟩ := h
        refine r_aI hx hb hK hP q11 dX5_errorPlace_21 ?_
        replace h := bd h
        obtain ⟨_, q12, h⟩ := h
        replace h := bd h
        obtain ⟨z14, q13, h⟩ := h
        refine c_X5_accept ⟨hx, hb, hml, hown, hts⟩ hl.1 hK hP hD hA hS wd_247 ⟨(Nat.le_of_ble_eq_true rfl), (Nat.le_of_ble_eq_true rfl)⟩ q13 q12 (Nat.le_of_ble_eq_true rfl) dX5_errorPlace_22 ⟨(Nat.le_of_ble_eq_true rfl), (Nat.le_of_ble_eq_true rfl)⟩ (fun H locs hP hD hS => ?_)
        refine lv_if_ne (tgt := 30) hx hb dX5_errorPlace_25 (by decide) (fun c15 => ?_) (fun c15 => ?_)
        · replace h := ifn c15 h
          refine lv_iinc (v := (y7_1 + 1)) (lv' := [(1, .int (y7_1 + 1)), (0, .ref y7_0)]) hx hb dX5_errorPlace_30 hl (k := 1) rfl rfl (by decide) rfl (fun ls hl => ?_)
          refine lv_goto (tgt := 7) hx hb dX5_errorPlace_33 (by decide) ?_
          exact ih z14.2 (y7_1 + 1) _ h _ _ _ hP hD hS (lv_sub hl [1, 0] rfl) hret hexit
        · replace h := ifp c15 h
          refine lv_iload_n hx hb dX5_errorPlace_28 rfl (lv_at hl 1 rfl) ?_
          cases h
          have h := hret _ rfl
          cases h
          exact e_im hx hb hlocks hr hP hD hS (Nat.le_of_ble_eq_true rfl) (Nat.le_of_ble_eq_true rfl) dX5_errorPlace_29
  replace h := bd h
  obtain ⟨z3, q16, h⟩ := h
  refine L7 a0 FU Z1 0 z3 q16 _ _ _ hP hD hS (lv_sub hl [1, 0] rfl) (fun y hy => by
    replace h := sel_l hy h
    cases h
    rfl) (fun t7_3 hy H locs ls hP hD hS hl => ?_)
  replace h := sel_r hy h
  refine lv_aload_n hx hb dX5_errorPlace_36 rfl (lv_at hl 0 rfl) ?_
  replace h := bd h
  obtain ⟨x17, q18, h⟩ := h
  refine fg_4_1 hx hb hts hown hK hP wd_197 q18 dX5_errorPlace_37 ?_
  cases h
  exact e_im hx hb hlocks hr hP hD hS (Nat.le_of_ble_eq_true rfl) (Nat.le_of_ble_eq_true rfl) dX5_errorPlace_40
set_option maxRecDepth 100000 in
theorem c_X5_errorPlace {p : Program} {l : Launch} {e : Env} {R : Room} {s : State} {m : MethodId} {args : Array Value} {below : List Frame} {meth : Method} {c : Code} {H : Heap} {locs : List Loc} {cells slots : Nat} {Q : State → Prop} {cc : ByteArray} {pc index nL : Nat} {ls : Array Slot} {rest : List Value} {D : va_G} {cy : Nat → ClassId} {A0 : Nat → Prop} {S : St} {H0 : Heap} {own : String} {u : Unit} {a0 : Nat} {r : Int32} {S1 : St}  (hF : CallFix p m c cc nL s args ALLW own) (hsz : ls.size = nL) (hK : va_K D vwCl (tyL cy) s) (hP : SP D cy S H) (hD : ∀ a, S a ≠ none → A0 a) (hA : ∀ q, H0.size ≤ q → A0 q) (hS : va_S A0 H0 H locs) (hk : Cond.methodLink own index yX5_errorPlace ∈ ALLW) (hR : rm_X5_errorPlace.frames + 1 ≤ R.frames ∧ 8 + (2 + 11) + rm_X5_errorPlace.locals ≤ R.locals) (h : f_X5_errorPlace S a0 = some (r, S1)) (hc : oO S a0 4 = some u) (hW : (rest.map fun v => v.category).sum ≤ 8) (hdg : decode cc pc = .ok (.invokevirtual index, 3)) (hf : cells + 0 ≤ R.cells ∧ slots + 0 ≤ R.slots)
    (kk : ∀ (H1 : Heap) (locs1 : List Loc), SP D cy S1 H1 → (∀ a, S1 a ≠ none → A0 a) → va_S A0 H0 H1 locs1 → W p l e R s m args below meth c H1 locs1 (cells + 0) (slots + 0) Q (F0 m (pc + 3) ls (.int r :: rest))) : W p l e R s m args below meth c H locs cells slots Q (F0 m pc ls (.ref a0 :: rest)) := by
  exact k_iVm (As := []) hF hsz (m_X5_errorPlace l D cy H.size S a0 r S1 h) (cwV_of (n := 0) hF.2.2.2.2 hk wd_244 wd_245 wd_74 wd_246 rfl rfl (by decide +kernel) hR) rfl hK hP hD hA hS (ci := 4) hc rfl hW rfl hdg hf kk
/-- VowBlocks$RowText.codeAt(I)I -/
def f_X5_codeAt (S : St) (a0 : Nat) (a1 : Int32) : Option (Int32) :=
  (
    if a1 < 0 then
      some (-1)
    else
      (gI S a0 4 1).bind fun x3 =>
      if x3 ≤ a1 then
        some (-1)
      else
        (gR S a0 4 0).bind fun x6 =>
        (aI S x6 a1).bind fun x8 =>
        some x8
  : Option (Int32)).bind fun t1 =>
  some t1
abbrev rm_X5_codeAt : Room := { frames := 0, cells := 0, slots := 0, locals := 0 }
set_option maxHeartbeats 4000000 in
set_option maxRecDepth 100000 in
theorem m_X5_codeAt (l : Launch) (D : va_G) (cy : Nat → ClassId) (S : St) (a0 : Nat) (a1 : Int32) (r : Int32) (h : f_X5_codeAt S a0 a1 = some r) : Met l yX5_codeAt (wsA yX5_codeAt cX5_codeAt 2 (some .int)) rm_X5_codeAt (va_Pc [.ref a0, .int a1] (PS D cy S)) (va_Qi (fun r' (_ : Unit) => r' = r) (fun _ _ => True) noA) 0 0 noA := by
  refine Met.ofW (cc := cX5_codeAt) (maxL := 2) (ret := (some .int)) (by decide) rfl ?_
  intro p e s m args below meth c s₁ B hml hv
  obtain ⟨rfl, hP, hK⟩ := hv
  have hx := B.exec
  have hb := B.bytes
  have hr := B.returns
  have hts9 := atoms_spec (ws := wsA yX5_codeAt cX5_codeAt 2 (some .int)) B.pre
  have hts : ∀ w ∈ ALLW, w.before _ s = true := fun w h => hts9 w (List.mem_cons_of_mem _ h)
  have hown : s.vm.findClass RX5 = some m.cls := findClass_of_methodNamed B.named
  have hlocks := B.notSynchronized
  have hS : va_S noA s.heap s.heap [] := va_S.rf
  have hl := lv_entry [.ref a0, .int a1] (n := 2) (Nat.le_of_ble_eq_true rfl)
  rw [lg_entry_eq]
  generalize (lg_sl [.ref a0, .int a1] ++ List.replicate (2 - (lg_sl [.ref a0, .int a1]).length) Slot.unset).toArray = ls at hl ⊢
  have hl : lv_has ls 2 [(0, .ref a0), (1, .int a1)] := hl
  rw [f_X5_codeAt] at h
  refine lv_iload_n hx hb dX5_codeAt_0 rfl (lv_at hl 1 rfl) ?_
  replace h := bd h
  obtain ⟨t1, ht, h⟩ := h
  have K1 : ∀ (H : Heap) (locs : List Loc) (ls : Array Slot), SP D cy S H → va_S noA s.heap H locs → lv_has ls 2 [] → W p l e rm_X5_codeAt s m ([.ref a0, .int a1] : List Value).toArray below meth c H locs 0 0 (MQ below (va_Qi (fun r' (_ : Unit) => r' = r) (fun _ _ => True) noA) ([.ref a0, .int a1] : List Value).toArray s 0 0 noA) (F0 m 22 ls [.int t1]) := by
    intro H locs ls hP hS hl
    cases h
    exact e_ip hx hb hlocks hr hS (Nat.le_of_ble_eq_true rfl) (Nat.le_of_ble_eq_true rfl) dX5_codeAt_22
  replace h := ht
  refine lv_if_lt (tgt := 21) hx hb dX5_codeAt_1 (by decide) (fun c2 => ?_) (fun c2 => ?_)
  · replace h := ifp c2 h
    refine lv_iconst (v := (-1)) hx hb dX5_codeAt_21 (by decide) ?_
    cases h
    exact K1 _ _ _ hP hS (lv_sub hl [] rfl)
  · replace h := ifn c2 h
    refine lv_iload_n hx hb dX5_codeAt_4 rfl (lv_at hl 1 rfl) ?_
    refine lv_aload_n hx hb dX5_codeAt_5 rfl (lv_at hl 0 rfl) ?_
    replace h := bd h
    obtain ⟨x3, q4, h⟩ := h
    refine fg_4_1 hx hb hts hown hK hP wd_197 q4 dX5_codeAt_6 ?_
    refine lv_icmp_ge (tgt := 21) hx hb dX5_codeAt_9 (by decide) (fun c5 => ?_) (fun c5 => ?_)
    · replace h := ifp c5 h
      refine lv_iconst (v := (-1)) hx hb dX5_codeAt_21 (by decide) ?_
      cases h
      exact K1 _ _ _ hP hS (lv_sub hl [] rfl)
    · replace h := ifn c5 h
      refine lv_aload_n hx hb dX5_codeAt_12 rfl (lv_at hl 0 rfl) ?_
      replace h := bd h
      obtain ⟨x6, q7, h⟩ := h
      refine fg_4_0 hx hb hts hown hK hP wd_196 q7 dX5_codeAt_13 ?_
      refine lv_iload_n hx hb dX5_codeAt_16 rfl (lv_at hl 1 rfl) ?_
      replace h := bd h
      obtain ⟨x8, q9, h⟩ := h
      refine r_aI hx hb hK hP q9 dX5_codeAt_17 ?_
      refine lv_goto (tgt := 22) hx hb dX5_codeAt_18 (by decide) ?_
      cases h
      exact K1 _ _ _ hP hS (lv_sub hl [] rfl)
set_option maxRecDepth 100000 in
theorem c_X5_codeAt {p : Program} {l : Launch} {e : Env} {R : Room} {s : State} {m : MethodId} {args : Array Value} {below : List Frame} {meth : Method} {c : Code} {H : Heap} {locs : List Loc} {cells slots : Nat} {Q : State → Prop} {cc : ByteArray} {pc index nL : Nat} {ls : Array Slot} {rest : List Value} {D : va_G} {cy : Nat → ClassId} {A0 : Nat → Prop} {S : St} {H0 : Heap} {own : String} {u : Unit} {a0 : Nat} {a1 : Int32} {r : Int32}  (hF : CallFix p m c cc nL s args ALLW own) (hsz : ls.size = nL) (hK : va_K D vwCl (tyL cy) s) (hP : SP D cy S H) (hS : va_S A0 H0 H locs) (hk : Cond.methodLink own index yX5_codeAt ∈ ALLW) (hR : rm_X5_codeAt.frames + 1 ≤ R.frames ∧ 8 + (2 + 11) + rm_X5_codeAt.locals ≤ R.locals) (h : f_X5_codeAt S a0 a1 = some r) (hc : oO S a0 4 = some u) (hW : (rest.map fun v => v.category).sum ≤ 8) (hdg : decode cc pc = .ok (.invokevirtual index, 3)) (hf : cells + 0 ≤ R.cells ∧ slots + 0 ≤ R.slots)
    (kk : ∀ (H1 : Heap) (locs1 : List Loc), SP D cy S H1 → va_S A0 H0 H1 locs1 → W p l e R s m args below meth c H1 locs1 (cells + 0) (slots + 0) Q (F0 m (pc + 3) ls (.int r :: rest))) : W p l e R s m args below meth c H locs cells slots Q (F0 m pc ls (.int a1 :: .ref a0 :: rest)) := by
  exact k_iVp (As := [.int a1]) hF hsz (m_X5_codeAt l D cy S a0 a1 r h) (cwV_of (n := 1) hF.2.2.2.2 hk wd_467 wd_468 wd_74 wd_469 rfl rfl (by decide +kernel) hR) rfl hK hP hS (ci := 4) hc rfl hW rfl hdg hf kk
