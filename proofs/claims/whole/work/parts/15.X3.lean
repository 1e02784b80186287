/-- VowBlocks$History.<init>()V -/
def f_X3_init_L20 (y20_0 : Nat) : Nat → St → Nat → Int32 →  Option (St × Nat)
  | 0, _, _, _ => none
  | fu + 1, S20_, sz20, y20_1 =>
    (gR S20_ y20_0 2 0).bind fun x7 =>
    (aN S20_ x7 2).bind fun x9 =>
    if x9 ≤ y20_1 then
      some (S20_, sz20)
    else
      (gR S20_ y20_0 2 0).bind fun x12 =>
      (f_X2_init (va_up S20_ sz20 (some (.inl (1, [.null, .int 0, .int 0, .int 0, .int 0])))) (sz20 + 1) sz20).bind fun z15 =>
      (sR z15.1 x12 2 1 y20_1 sz20).bind fun Z17 =>
      f_X3_init_L20 y20_0 fu Z17 z15.2 (y20_1 + 1)
def f_X3_init (S : St) (sz : Nat) (a0 : Nat) : Option (St × Nat) :=
  (pR (va_up S sz (some (arR 2 6 (fun _ => none)))) a0 2 0 sz).bind fun Z1 =>
  (pI Z1 a0 2 1 0).bind fun Z3 =>
  (f_X3_init_L20 a0 7 Z3 (sz + 1) 0).bind fun z5 =>
  some (z5.1, z5.2)
abbrev rm_X3_init : Room := { frames := 4, cells := 204, slots := 2239, locals := 73 }
set_option maxHeartbeats 4000000 in
set_option maxRecDepth 100000 in
theorem m_X3_init (l : Launch) (D : va_G) (cy : Nat → ClassId) (sz : Nat) (S : St) (a0 : Nat) (S1 : St) (sz1 : Nat) (h : f_X3_init S sz a0 = some (S1, sz1)) : Met l yX3_init (wsA yX3_init cX3_init 2 none) rm_X3_init (va_Pc [.ref a0] (PNA D cy S sz)) (va_Qv (fun _ : Unit => True) (fun _ t => t.heap.size = sz1 ∧ PoS D cy S1 (dm S sz) t) (dm S sz)) 204 2239 (dm S sz) := by
  refine Met.ofW (cc := cX3_init) (maxL := 2) (ret := none) (by decide) rfl ?_
  intro p e s m args below meth c s₁ B hml hv
  obtain ⟨rfl, hz, hP, hK, hE⟩ := hv
  have hx := B.exec
  have hb := B.bytes
  have hr := B.returns
  have hts9 := atoms_spec (ws := wsA yX3_init cX3_init 2 none) B.pre
  have hts : ∀ w ∈ ALLW, w.before _ s = true := fun w h => hts9 w (List.mem_cons_of_mem _ h)
  have hown : s.vm.findClass RX3 = some m.cls := findClass_of_methodNamed B.named
  have hlocks := B.notSynchronized
  have hin : meth.name = "<init>" := (name_of_methodNamed B.named B.method).1
  have hD : ∀ a, S a ≠ none → dm S sz a := fun a h => Or.inl h
  have hA : ∀ q : Nat, s.heap.size ≤ q → dm S sz q := fun q h => Or.inr (hz ▸ h)
  have hS : va_S (dm S sz) s.heap s.heap [] := va_S.rf
  have hov2 := va_AO.use (A := ([.ref a0] : List Value).toArray) hE.2.2
  have hl := lv_entry [.ref a0] (n := 2) (Nat.le_of_ble_eq_true rfl)
  rw [lg_entry_eq]
  generalize (lg_sl [.ref a0] ++ List.replicate (2 - (lg_sl [.ref a0]).length) Slot.unset).toArray = ls at hl ⊢
  have hl : lv_has ls 2 [(0, .ref a0)] := hl
  rw [f_X3_init] at h
  refine lv_aload_n hx hb dX3_init_0 rfl (lv_at hl 0 rfl) ?_
  refine W.objInit hx hb hown (hts _ wd_179) (hts _ wd_91) (hts _ wd_92) rfl (hl.1.trans hml.symm) rfl dX3_init_1 (Nat.le_of_ble_eq_true rfl) (Nat.le_of_ble_eq_true rfl) ?_
  refine lv_aload_n hx hb dX3_init_4 rfl (lv_at hl 0 rfl) ?_
  refine lv_bipush (v := 6) hx hb dX3_init_5 (by decide) ?_
  refine r_newq (C := RX2) (t := 2) hx hb hown (hts _ wd_180) hov2 hK rfl hP hD hS hA (N := 6) (by decide) (by decide) (by decide) (Nat.le_of_ble_eq_true rfl) (Nat.le_of_ble_eq_true rfl) dX3_init_7 hz (fun H hz hP hD hS => ?_)
  replace h := bd h
  obtain ⟨Z1, q2, h⟩ := h
  refine fp_2_0 hx hb hts hown hK hP hD hS hin rfl wd_183 q2 dX3_init_10 (fun H locs hz9 hP hD hS => ?_)
  replace hz := hz9.trans hz
  refine lv_aload_n hx hb dX3_init_13 rfl (lv_at hl 0 rfl) ?_
  refine lv_iconst (v := 0) hx hb dX3_init_14 (by decide) ?_
  replace h := bd h
  obtain ⟨Z3, q4, h⟩ := h
  refine fp_2_1 hx hb hts hown hK hP hD hS wd_184 q4 dX3_init_15 (fun H locs hz9 hP hD hS => ?_)
  replace hz := hz9.trans hz
  refine lv_iconst (v := 0) hx hb dX3_init_18 (by decide) ?_
  refine lv_istore_n (lv' := [(1, .int 0), (0, .ref a0)]) hx hb dX3_init_19 rfl hl (by decide) rfl (fun ls hl => ?_)
  have L20 : ∀ (y20_0 : Nat) (fu : Nat) (S20_ : St) (sz20 : Nat) (y20_1 : Int32) (res : St × Nat), f_X3_init_L20 y20_0 fu S20_ sz20 y20_1 = some res → ∀ (cs sl9 : Nat), cs + 29 * fu ≤ 204 → sl9 + 319 * fu ≤ 2239 → ∀ (H : Heap) (locs : List Loc) (ls : Array Slot), H.size = sz20 → SP D cy S20_ H → (∀ a, S20_ a ≠ none → (dm S sz) a) → va_S (dm S sz) s.heap H locs → lv_has ls 2 [(0, .ref y20_0), (1, .int y20_1)] → (∀ (cs sl9 : Nat), cs ≤ 204 → sl9 ≤ 2239 → ∀ (H : Heap) (locs : List Loc) (ls : Array Slot), H.size = res.2 → SP D cy res.1 H → (∀ a, res.1 a ≠ none → (dm S sz) a) → va_S (dm S sz) s.heap H locs → lv_has ls 2 [] → W p l e rm_X3_init s m ([.ref a0] : List Value).toArray below meth c H locs cs sl9 (MQ below (va_Qv (fun _ : Unit => True) (fun _ t => t.heap.size = sz1 ∧ PoS D cy S1 (dm S sz) t) (dm S sz)) ([.ref a0] : List Value).toArray s 204 2239 (dm S sz)) (F0 m 48 ls [])) → W p l e rm_X3_init s m ([.ref a0] : List Value).toArray below meth c H locs cs sl9 (MQ below (va_Qv (fun _ : Unit => True) (fun _ t => t.heap.size = sz1 ∧ PoS D cy S1 (dm S sz) t) (dm S sz)) ([.ref a0] : List Value).toArray s 204 2239 (dm S sz)) (F0 m 20 ls []) := by
    intro y20_0 fu
    induction fu with
    | zero =>
      intro S20_ sz20 y20_1 res h
      rw [f_X3_init_L20] at h
      cases h
    | succ fu ih =>
      intro S20_ sz20 y20_1 res h cs sl9 hcs hsl H locs ls hz hP hD hS hl hexit
      rw [f_X3_init_L20] at h
      refine lv_iload_n hx hb dX3_init_20 rfl (lv_at hl 1 rfl) ?_
      refine lv_aload_n hx hb dX3_init_21 rfl (lv_at hl 0 rfl) ?_
      replace h := bd h
      obtain ⟨x7, q8, h⟩ := h
      refine fg_2_0 hx hb hts hown hK hP wd_183 q8 dX3_init_22 ?_
      replace h := bd h
      obtain ⟨x9, q10, h⟩ := h
      refine r_aN hx hb hK hP (t := 2) rfl q10 dX3_init_25 ?_
      refine lv_icmp_ge (tgt := 48) hx hb dX3_init_26 (by decide) (fun c11 => ?_) (fun c11 => ?_)
      · replace h := ifp c11 h
        cases h
        exact hexit _ _ (by omega) (by omega) _ _ _ hz hP hD hS (lv_sub hl [] rfl)
      · replace h := ifn c11 h
        refine lv_aload_n hx hb dX3_init_29 rfl (lv_at hl 0 rfl) ?_
        replace h := bd h
        obtain ⟨x12, q13, h⟩ := h
        refine fg_2_0 hx hb hts hown hK hP wd_183 q13 dX3_init_30 ?_
        refine lv_iload_n hx hb dX3_init_33 rfl (lv_at hl 1 rfl) ?_
        refine r_new (ci := 1) (fs := [.null, .int 0, .int 0, .int 0, .int 0]) (T := TX2) (N := 5) hx hb hts iX2 tyX2 tyX2_ok hown (hts _ wd_180) (hts _ wd_94) (hts _ wd_70) hK hP hD hS hA rfl (fun j hj => by have h9 : j < 5 := hj; match j, h9 with | 0, _ => rfl | 1, _ => rfl | 2, _ => rfl | 3, _ => rfl | 4, _ => rfl) (by show (cs + 0) + 1 ≤ 204; omega) (by show (sl9 + 0) + 5 ≤ 2239; omega) dX3_init_34 hz (fun H hz hP hD hS => ?_)
        refine lv_dup hx hb dX3_init_37 rfl ?_
        replace h := bd h
        obtain ⟨z15, q16, h⟩ := h
        refine c_X2_init ⟨hx, hb, hml, hown, hts⟩ hl.1 hK hP hD hA hS hE wd_182 ⟨(Nat.le_of_ble_eq_true rfl), (Nat.le_of_ble_eq_true rfl)⟩ q16 hz (Nat.le_of_ble_eq_true rfl) dX3_init_38 ⟨(by show (cs + 1) + 28 ≤ 204; omega), (by show (sl9 + 5) + 314 ≤ 2239; omega)⟩ (fun H locs hz hP hD hS => ?_)
        replace h := bd h
        obtain ⟨Z17, q18, h⟩ := h
        refine r_sR hx hb hK hP hD hS (t := 2) rfl rfl q18 dX3_init_41 (fun H locs hz9 hP hD hS => ?_)
        replace hz := hz9.trans hz
        refine lv_iinc (v := (y20_1 + 1)) (lv' := [(1, .int (y20_1 + 1)), (0, .ref y20_0)]) hx hb dX3_init_42 hl (k := 1) rfl rfl (by decide) rfl (fun ls hl => ?_)
        refine lv_goto (tgt := 20) hx hb dX3_init_45 (by decide) ?_
        exact ih Z17 z15.2 (y20_1 + 1) _ h (cs + 29) (sl9 + 319) (by omega) (by omega) _ _ _ hz hP hD hS (lv_sub hl [1, 0] rfl) hexit
  replace h := bd h
  obtain ⟨z5, q19, h⟩ := h
  refine L20 a0 7 Z3 (sz + 1) 0 z5 q19 1 6 (by decide) (by decide) _ _ _ hz hP hD hS (lv_sub hl [1, 0] rfl) (fun cz9 sz9 hcz9 hsz9 H locs ls hz hP hD hS hl => ?_)
  cases h
  exact e_vA hx hb hlocks hr hP hD hz hS (by show (cz9 + 0) ≤ 204; omega) (by show (sz9 + 0) ≤ 2239; omega) dX3_init_48
set_option maxRecDepth 100000 in
theorem c_X3_init {p : Program} {l : Launch} {e : Env} {R : Room} {s : State} {m : MethodId} {args : Array Value} {below : List Frame} {meth : Method} {c : Code} {H : Heap} {locs : List Loc} {cells slots : Nat} {Q : State → Prop} {cc : ByteArray} {pc index nL : Nat} {ls : Array Slot} {rest : List Value} {D : va_G} {cy : Nat → ClassId} {A0 : Nat → Prop} {S : St} {H0 : Heap} {own : String} {a0 : Nat} {S1 : St} {sz1 szv : Nat}  (hF : CallFix p m c cc nL s args ALLW own) (hsz : ls.size = nL) (hK : va_K D vwCl (tyL cy) s) (hP : SP D cy S H) (hD : ∀ a, S a ≠ none → A0 a) (hA : ∀ q, H0.size ≤ q → A0 q) (hS : va_S A0 H0 H locs) (hE : NWA s) (hk : Cond.methodLink own index yX3_init ∈ ALLW) (hR : rm_X3_init.frames + 1 ≤ R.frames ∧ 8 + (2 + 11) + rm_X3_init.locals ≤ R.locals) (h : f_X3_init S szv a0 = some (S1, sz1)) (hz : H.size = szv) (hW : (rest.map fun v => v.category).sum ≤ 8) (hdg : decode cc pc = .ok (.invokespecial index, 3)) (hf : cells + 204 ≤ R.cells ∧ slots + 2239 ≤ R.slots)
    (kk : ∀ (H1 : Heap) (locs1 : List Loc), H1.size = sz1 → SP D cy S1 H1 → (∀ a, S1 a ≠ none → A0 a) → va_S A0 H0 H1 locs1 → W p l e R s m args below meth c H1 locs1 (cells + 204) (slots + 2239) Q (F0 m (pc + 3) ls (rest))) : W p l e R s m args below meth c H locs cells slots Q (F0 m pc ls (.ref a0 :: rest)) := by
  subst hz
  exact k_I (As := []) (host := "") hF hsz (m_X3_init l D cy H.size S a0 S1 sz1 h) (cwI_of (n := 0) hF.2.2.2.2 hk wd_177 wd_73 wd_178 rfl rfl rfl (by decide +kernel) hR) rfl hK hP hD hA hS hE hW rfl hdg hf kk
/-- VowBlocks$History.dropOldest()V -/
def f_X3_dropOldest_L9 (y9_0 : Nat) (y9_1 : Nat) : Nat → St → Int32 →  Option (St)
  | 0, _, _ => none
  | fu + 1, S9_, y9_2 =>
    (gR S9_ y9_0 2 0).bind fun x7 =>
    (aN S9_ x7 2).bind fun x9 =>
    if x9 ≤ (y9_2 + 1) then
      some S9_
    else
      (gR S9_ y9_0 2 0).bind fun x12 =>
      (gR S9_ y9_0 2 0).bind fun x14 =>
      (aR S9_ x14 2 (y9_2 + 1)).bind fun x16 =>
      (sR S9_ x12 2 1 y9_2 x16).bind fun Z18 =>
      f_X3_dropOldest_L9 y9_0 y9_1 fu Z18 (y9_2 + 1)
def f_X3_dropOldest (S : St) (a0 : Nat) : Option (St) :=
  (gR S a0 2 0).bind fun x1 =>
  (aR S x1 2 0).bind fun x3 =>
  (f_X3_dropOldest_L9 a0 x3 FU S 0).bind fun z5 =>
  (gR z5 a0 2 0).bind fun x21 =>
  (aN z5 x21 2).bind fun x23 =>
  (pI z5 a0 2 1 (x23 - 1)).bind fun Z25 =>
  (gR Z25 a0 2 0).bind fun x27 =>
  (gI Z25 a0 2 1).bind fun x29 =>
  (sR Z25 x27 2 1 x29 x3).bind fun Z31 =>
  some Z31
abbrev rm_X3_dropOldest : Room := { frames := 0, cells := 0, slots := 0, locals := 0 }
set_option maxHeartbeats 4000000 in
set_option maxRecDepth 100000 in
theorem m_X3_dropOldest (l : Launch) (D : va_G) (cy : Nat → ClassId) (sz : Nat) (S : St) (a0 : Nat) (S1 : St) (h : f_X3_dropOldest S a0 = some S1) : Met l yX3_dropOldest (wsA yX3_dropOldest cX3_dropOldest 3 none) rm_X3_dropOldest (va_Pc [.ref a0] (PN D cy S sz)) (va_Qv (fun _ : Unit => True) (fun _ t => PoS D cy S1 (dm S sz) t) (dm S sz)) 0 0 (dm S sz) := by
  refine Met.ofW (cc := cX3_dropOldest) (maxL := 3) (ret := none) (by decide) rfl ?_
  intro p e s m args below meth c s₁ B hml hv
  obtain ⟨rfl, hsz, hP, hK⟩ := hv
  have hx := B.exec
  have hb := B.bytes
  have hr := B.returns
  have hts9 := atoms_spec (ws := wsA yX3_dropOldest cX3_dropOldest 3 none) B.pre
  have hts : ∀ w ∈ ALLW, w.before _ s = true := fun w h => hts9 w (List.mem_cons_of_mem _ h)
  have hown : s.vm.findClass RX3 = some m.cls := findClass_of_methodNamed B.named
  have hlocks := B.notSynchronized
  subst hsz
  have hD : ∀ a, S a ≠ none → dm S s.heap.size a := fun a h => Or.inl h
  have hA : ∀ q : Nat, s.heap.size ≤ q → dm S s.heap.size q := fun q h => Or.inr h
  have hS : va_S (dm S s.heap.size) s.heap s.heap [] := va_S.rf
  have hl := lv_entry [.ref a0] (n := 3) (Nat.le_of_ble_eq_true rfl)
  rw [lg_entry_eq]
  generalize (lg_sl [.ref a0] ++ List.replicate (3 - (lg_sl [.ref a0]).length) Slot.unset).toArray = ls at hl ⊢
  have hl : lv_has ls 3 [(0, .ref a0)] := hl
  rw [f_X3_dropOldest] at h
  refine lv_aload_n hx hb dX3_dropOldest_0 rfl (lv_at hl 0 rfl) ?_
  replace h := bd h
  obtain ⟨x1, q2, h⟩ := h
  refine fg_2_0 hx hb hts hown hK hP wd_183 q2 dX3_dropOldest_1 ?_
  refine lv_iconst (v := 0) hx hb dX3_dropOldest_4 (by decide) ?_
  replace h := bd h
  obtain ⟨x3, q4, h⟩ := h
  refine r_aR hx hb hK hP (t := 2) rfl q4 dX3_dropOldest_5 ?_
  refine lv_astore_n (lv' := [(1, .ref x3), (0, .ref a0)]) hx hb dX3_dropOldest_6 rfl hl (by decide) rfl (fun ls hl => ?_)
  refine lv_iconst (v := 0) hx hb dX3_dropOldest_7 (by decide) ?_
  refine lv_istore_n (lv' := [(2, .int 0), (1, .ref x3), (0, .ref a0)]) hx hb dX3_dropOldest_8 rfl hl (by decide) rfl (fun ls hl => ?_)
  have L9 : ∀ (y9_0 : Nat) (y9_1 : Nat) (fu : Nat) (S9_ : St) (y9_2 : Int32) (res : St), f_X3_dropOldest_L9 y9_0 y9_1 fu S9_ y9_2 = some res → ∀ (H : Heap) (locs : List Loc) (ls : Array Slot), SP D cy S9_ H → (∀ a, S9_ a ≠ none → (dm S s.heap.size) a) → va_S (dm S s.heap.size) s.heap H locs → lv_has ls 3 [(0, .ref y9_0), (1, .ref y9_1), (2, .int y9_2)] → (∀ (H : Heap) (locs : List Loc) (ls : Array Slot), SP D cy res H → (∀ a, res a ≠ none → (dm S s.heap.size) a) → va_S (dm S s.heap.size) s.heap H locs → lv_has ls 3 [(0, .ref y9_0), (1, .ref y9_1)] → W p l e rm_X3_dropOldest s m ([.ref a0] : List Value).toArray below meth c H locs 0 0 (MQ below (va_Qv (fun _ : Unit => True) (fun _ t => PoS D cy S1 (dm S s.heap.size) t) (dm S s.heap.size)) ([.ref a0] : List Value).toArray s 0 0 (dm S s.heap.size)) (F0 m 40 ls [])) → W p l e rm_X3_dropOldest s m ([.ref a0] : List Value).toArray below meth c H locs 0 0 (MQ below (va_Qv (fun _ : Unit => True) (fun _ t => PoS D cy S1 (dm S s.heap.size) t) (dm S s.heap.size)) ([.ref a0] : List Value).toArray s 0 0 (dm S s.heap.size)) (F0 m 9 ls []) := by
    intro y9_0 y9_1 fu
    induction fu with
    | zero =>
      intro S9_ y9_2 res h
      rw [f_X3_dropOldest_L9] at h
      cases h
    | succ fu ih =>
      intro S9_ y9_2 res h H locs ls hP hD hS hl hexit
      rw [f_X3_dropOldest_L9] at h
      refine lv_iload_n hx hb dX3_dropOldest_9 rfl (lv_at hl 2 rfl) ?_
      refine lv_iconst (v := 1) hx hb dX3_dropOldest_10 (by decide) ?_
      refine lv_iadd hx hb dX3_dropOldest_11 ?_
      refine lv_aload_n hx hb dX3_dropOldest_12 rfl (lv_at hl 0 rfl) ?_
      replace h := bd h
      obtain ⟨x7, q8, h⟩ := h
      refine fg_2_0 hx hb hts hown hK hP wd_183 q8 dX3_dropOldest_13 ?_
      replace h := bd h
      obtain ⟨x9, q10, h⟩ := h
      refine r_aN hx hb hK hP (t := 2) rfl q10 dX3_dropOldest_16 ?_
      refine lv_icmp_ge (tgt := 40) hx hb dX3_dropOldest_17 (by decide) (fun c11 => ?_) (fun c11 => ?_)
      · replace h := ifp c11 h
        cases h
        exact hexit _ _ _ hP hD hS (lv_sub hl [0, 1] rfl)
      · replace h := ifn c11 h
        refine lv_aload_n hx hb dX3_dropOldest_20 rfl (lv_at hl 0 rfl) ?_
        replace h := bd h
        obtain ⟨x12, q13, h⟩ := h
        refine fg_2_0 hx hb hts hown hK hP wd_183 q13 dX3_dropOldest_21 ?_
        refine lv_iload_n hx hb dX3_dropOldest_24 rfl (lv_at hl 2 rfl) ?_
        refine lv_aload_n hx hb dX3_dropOldest_25 rfl (lv_at hl 0 rfl) ?_
        replace h := bd h
        obtain ⟨x14, q15, h⟩ := h
        refine fg_2_0 hx hb hts hown hK hP wd_183 q15 dX3_dropOldest_26 ?_
        refine lv_iload_n hx hb dX3_dropOldest_29 rfl (lv_at hl 2 rfl) ?_
        refine lv_iconst (v := 1) hx hb dX3_dropOldest_30 (by decide) ?_
        refine lv_iadd hx hb dX3_dropOldest_31 ?_
        replace h := bd h
        obtain ⟨x16, q17, h⟩ := h
        refine r_aR hx hb hK hP (t := 2) rfl q17 dX3_dropOldest_32 ?_
        replace h := bd h
        obtain ⟨Z18, q19, h⟩ := h
        refine r_sR hx hb hK hP hD hS (t := 2) rfl rfl q19 dX3_dropOldest_33 (fun H locs hz9 hP hD hS => ?_)
        refine lv_iinc (v := (y9_2 + 1)) (lv' := [(2, .int (y9_2 + 1)), (0, .ref y9_0), (1, .ref y9_1)]) hx hb dX3_dropOldest_34 hl (k := 2) rfl rfl (by decide) rfl (fun ls hl => ?_)
        refine lv_goto (tgt := 9) hx hb dX3_dropOldest_37 (by decide) ?_
        exact ih Z18 (y9_2 + 1) _ h _ _ _ hP hD hS (lv_sub hl [1, 2, 0] rfl) hexit
  replace h := bd h
  obtain ⟨z5, q20, h⟩ := h
  refine L9 a0 x3 FU S 0 z5 q20 _ _ _ hP hD hS (lv_sub hl [2, 1, 0] rfl) (fun H locs ls hP hD hS hl => ?_)
  refine lv_aload_n hx hb dX3_dropOldest_40 rfl (lv_at hl 0 rfl) ?_
  refine lv_aload_n hx hb dX3_dropOldest_41 rfl (lv_at hl 0 rfl) ?_
  replace h := bd h
  obtain ⟨x21, q22, h⟩ := h
  refine fg_2_0 hx hb hts hown hK hP wd_183 q22 dX3_dropOldest_42 ?_
  replace h := bd h
  obtain ⟨x23, q24, h⟩ := h
  refine r_aN hx hb hK hP (t := 2) rfl q24 dX3_dropOldest_45 ?_
  refine lv_iconst (v := 1) hx hb dX3_dropOldest_46 (by decide) ?_
  refine lv_isub hx hb dX3_dropOldest_47 ?_
  replace h := bd h
  obtain ⟨Z25, q26, h⟩ := h
  refine fp_2_1 hx hb hts hown hK hP hD hS wd_184 q26 dX3_dropOldest_48 (fun H locs hz9 hP hD hS => ?_)
  refine lv_aload_n hx hb dX3_dropOldest_51 rfl (lv_at hl 0 rfl) ?_
  replace h := bd h
  obtain ⟨x27, q28, h⟩ := h
  refine fg_2_0 hx hb hts hown hK hP wd_183 q28 dX3_dropOldest_52 ?_
  refine lv_aload_n hx hb dX3_dropOldest_55 rfl (lv_at hl 0 rfl) ?_
  replace h := bd h
  obtain ⟨x29, q30, h⟩ := h
  refine fg_2_1 hx hb hts hown hK hP wd_184 q30 dX3_dropOldest_56 ?_
  refine lv_aload_n hx hb dX3_dropOldest_59 rfl (lv_at hl 1 rfl) ?_
  replace h := bd h
  obtain ⟨Z31, q32, h⟩ := h
  refine r_sR hx hb hK hP hD hS (t := 2) rfl rfl q32 dX3_dropOldest_60 (fun H locs hz9 hP hD hS => ?_)
  cases h
  exact e_vm hx hb hlocks hr hP hD hS (Nat.le_of_ble_eq_true rfl) (Nat.le_of_ble_eq_true rfl) dX3_dropOldest_61
set_option maxRecDepth 100000 in
theorem c_X3_dropOldest {p : Program} {l : Launch} {e : Env} {R : Room} {s : State} {m : MethodId} {args : Array Value} {below : List Frame} {meth : Method} {c : Code} {H : Heap} {locs : List Loc} {cells slots : Nat} {Q : State → Prop} {cc : ByteArray} {pc index nL : Nat} {ls : Array Slot} {rest : List Value} {D : va_G} {cy : Nat → ClassId} {A0 : Nat → Prop} {S : St} {H0 : Heap} {own : String} {u : Unit} {a0 : Nat} {S1 : St}  (hF : CallFix p m c cc nL s args ALLW own) (hsz : ls.size = nL) (hK : va_K D vwCl (tyL cy) s) (hP : SP D cy S H) (hD : ∀ a, S a ≠ none → A0 a) (hA : ∀ q, H0.size ≤ q → A0 q) (hS : va_S A0 H0 H locs) (hk : Cond.methodLink own index yX3_dropOldest ∈ ALLW) (hR : rm_X3_dropOldest.frames + 1 ≤ R.frames ∧ 8 + (3 + 11) + rm_X3_dropOldest.locals ≤ R.locals) (h : f_X3_dropOldest S a0 = some S1) (hc : oO S a0 2 = some u) (hW : (rest.map fun v => v.category).sum ≤ 8) (hdg : decode cc pc = .ok (.invokevirtual index, 3)) (hf : cells + 0 ≤ R.cells ∧ slots + 0 ≤ R.slots)
    (kk : ∀ (H1 : Heap) (locs1 : List Loc), SP D cy S1 H1 → (∀ a, S1 a ≠ none → A0 a) → va_S A0 H0 H1 locs1 → W p l e R s m args below meth c H1 locs1 (cells + 0) (slots + 0) Q (F0 m (pc + 3) ls (rest))) : W p l e R s m args below meth c H locs cells slots Q (F0 m pc ls (.ref a0 :: rest)) := by
  exact k_vVm (As := []) hF hsz (m_X3_dropOldest l D cy H.size S a0 S1 h) (cwV_of (n := 0) hF.2.2.2.2 hk wd_588 wd_14 wd_73 wd_589 rfl rfl (by decide +kernel) hR) rfl hK hP hD hA hS (ci := 2) hc rfl hW rfl hdg hf kk
/-- VowBlocks$History.save(LVowBlocks$Column;)V -/
def f_X3_save (S : St) (a0 : Nat) (a1 : Nat) : Option (St) :=
  (gI S a0 2 1).bind fun x1 =>
  (gR S a0 2 0).bind fun x3 =>
  (aN S x3 2).bind fun x5 =>
  (
    if x1 < x5 then
      some S
    else
      (oO S a0 2).bind fun _ =>
      (f_X3_dropOldest S a0).bind fun z11 =>
      some z11
  : Option (St)).bind fun t7 =>
  (gR t7 a0 2 0).bind fun x12 =>
  (gI t7 a0 2 1).bind fun x14 =>
  (aR t7 x12 2 x14).bind fun x16 =>
  (oO t7 x16 1).bind fun _ =>
  (f_X2_copyFrom t7 x16 a1).bind fun z20 =>
  (gI z20 a0 2 1).bind fun x21 =>
  (pI z20 a0 2 1 (x21 + 1)).bind fun Z23 =>
  some Z23
abbrev rm_X3_save : Room := { frames := 3, cells := 0, slots := 0, locals := 65 }
set_option maxHeartbeats 4000000 in
set_option maxRecDepth 100000 in
theorem m_X3_save (l : Launch) (D : va_G) (cy : Nat → ClassId) (sz : Nat) (S : St) (a0 : Nat) (a1 : Nat) (S1 : St) (h : f_X3_save S a0 a1 = some S1) : Met l yX3_save (wsA yX3_save cX3_save 2 none) rm_X3_save (va_Pc [.ref a0, .ref a1] (PN D cy S sz)) (va_Qv (fun _ : Unit => True) (fun _ t => PoS D cy S1 (dm S sz) t) (dm S sz)) 0 0 (dm S sz) := by
  refine Met.ofW (cc := cX3_save) (maxL := 2) (ret := none) (by decide) rfl ?_
  intro p e s m args below meth c s₁ B hml hv
  obtain ⟨rfl, hsz, hP, hK⟩ := hv
  have hx := B.exec
  have hb := B.bytes
  have hr := B.returns
  have hts9 := atoms_spec (ws := wsA yX3_save cX3_save 2 none) B.pre
  have hts : ∀ w ∈ ALLW, w.before _ s = true := fun w h => hts9 w (List.mem_cons_of_mem _ h)
  have hown : s.vm.findClass RX3 = some m.cls := findClass_of_methodNamed B.named
  have hlocks := B.notSynchronized
  subst hsz
  have hD : ∀ a, S a ≠ none → dm S s.heap.size a := fun a h => Or.inl h
  have hA : ∀ q : Nat, s.heap.size ≤ q → dm S s.heap.size q := fun q h => Or.inr h
  have hS : va_S (dm S s.heap.size) s.heap s.heap [] := va_S.rf
  have hl := lv_entry [.ref a0, .ref a1] (n := 2) (Nat.le_of_ble_eq_true rfl)
  rw [lg_entry_eq]
  generalize (lg_sl [.ref a0, .ref a1] ++ List.replicate (2 - (lg_sl [.ref a0, .ref a1]).length) Slot.unset).toArray = ls at hl ⊢
  have hl : lv_has ls 2 [(0, .ref a0), (1, .ref a1)] := hl
  rw [f_X3_save] at h
  refine lv_aload_n hx hb dX3_save_0 rfl (lv_at hl 0 rfl) ?_
  replace h := bd h
  obtain ⟨x1, q2, h⟩ := h
  refine fg_2_1 hx hb hts hown hK hP wd_184 q2 dX3_save_1 ?_
  refine lv_aload_n hx hb dX3_save_4 rfl (lv_at hl 0 rfl) ?_
  replace h := bd h
  obtain ⟨x3, q4, h⟩ := h
  refine fg_2_0 hx hb hts hown hK hP wd_183 q4 dX3_save_5 ?_
  replace h := bd h
  obtain ⟨x5, q6, h⟩ := h
  refine r_aN hx hb hK hP (t := 2) rfl q6 dX3_save_8 ?_
  replace h := bd h
  obtain ⟨t7, ht, h⟩ := h
  have K7 : ∀ (H : Heap) (locs : List Loc) (ls : Array Slot), SP D cy t7 H → (∀ a, t7 a ≠ none → (dm S s.heap.size) a) → va_S (dm S s.heap.size) s.heap H locs → lv_has ls 2 [(0, .ref a0), (1, .ref a1)] → W p l e rm_X3_save s m ([.ref a0, .ref a1] : List Value).toArray below meth c H locs 0 0 (MQ below (va_Qv (fun _ : Unit => True) (fun _ t => PoS D cy S1 (dm S s.heap.size) t) (dm S s.heap.size)) ([.ref a0, .ref a1] : List Value).toArray s 0 0 (dm S s.heap.size)) (F0 m 16 ls []) := by
    intro H locs ls hP hD hS hl
    refine lv_aload_n hx hb dX3_save_16 rfl (lv_at hl 0 rfl) ?_
    replace h := bd h
    obtain ⟨x12, q13, h⟩ := h
    refine fg_2_0 hx hb hts hown hK hP wd_183 q13 dX3_save_17 ?_
    refine lv_aload_n hx hb dX3_save_20 rfl (lv_at hl 0 rfl) ?_
    replace h := bd h
    obtain ⟨x14, q15, h⟩ := h
    refine fg_2_1 hx hb hts hown hK hP wd_184 q15 dX3_save_21 ?_
    replace h := bd h
    obtain ⟨x16, q17, h⟩ := h
    refine r_aR hx hb hK hP (t := 2) rfl q17 dX3_save_24 ?_
    refine lv_aload_n hx hb dX3_save_25 rfl (lv_at hl 1 rfl) ?_
    replace h := bd h
    obtain ⟨_, q18, h⟩ := h
    replace h := bd h
    obtain ⟨z20, q19, h⟩ := h
    refine c_X2_copyFrom ⟨hx, hb, hml, hown, hts⟩ hl.1 hK hP hD hA hS wd_590 ⟨(Nat.le_of_ble_eq_true rfl), (Nat.le_of_ble_eq_true rfl)⟩ q19 q18 (Nat.le_of_ble_eq_true rfl) dX3_save_26 ⟨(Nat.le_of_ble_eq_true rfl), (Nat.le_of_ble_eq_true rfl)⟩ (fun H locs hP hD hS => ?_)
    refine lv_aload_n hx hb dX3_save_29 rfl (lv_at hl 0 rfl) ?_
    refine lv_dup hx hb dX3_save_30 rfl ?_
    replace h := bd h
    obtain ⟨x21, q22, h⟩ := h
    refine fg_2_1 hx hb hts hown hK hP wd_184 q22 dX3_save_31 ?_
    refine lv_iconst (v := 1) hx hb dX3_save_34 (by decide) ?_
    refine lv_iadd hx hb dX3_save_35 ?_
    replace h := bd h
    obtain ⟨Z23, q24, h⟩ := h
    refine fp_2_1 hx hb hts hown hK hP hD hS wd_184 q24 dX3_save_36 (fun H locs hz9 hP hD hS => ?_)
    cases h
    exact e_vm hx hb hlocks hr hP hD hS (Nat.le_of_ble_eq_true rfl) (Nat.le_of_ble_eq_true rfl) dX3_save_39
  replace h := ht
  refine lv_icmp_lt (tgt := 16) hx hb dX3_save_9 (by decide) (fun c8 => ?_) (fun c8 => ?_)
  · replace h := ifp c8 h
    cases h
    exact K7 _ _ _ hP hD hS (lv_sub hl [0, 1] rfl)
  · replace h := ifn c8 h
    refine lv_aload_n hx hb dX3_save_12 rfl (lv_at hl 0 rfl) ?_
    replace h := bd h
    obtain ⟨_, q9, h⟩ := h
    replace h := bd h
    obtain ⟨z11, q10, h⟩ := h
    refine c_X3_dropOldest ⟨hx, hb, hml, hown, hts⟩ hl.1 hK hP hD hA hS wd_586 ⟨(Nat.le_of_ble_eq_true rfl), (Nat.le_of_ble_eq_true rfl)⟩ q10 q9 (Nat.le_of_ble_eq_true rfl) dX3_save_13 ⟨(Nat.le_of_ble_eq_true rfl), (Nat.le_of_ble_eq_true rfl)⟩ (fun H locs hP hD hS => ?_)
    cases h
    exact K7 _ _ _ hP hD hS (lv_sub hl [0, 1] rfl)
set_option maxRecDepth 100000 in
theorem c_X3_save {p : Program} {l : Launch} {e : Env} {R : Room} {s : State} {m : MethodId} {args : Array Value} {below : List Frame} {meth : Method} {c : Code} {H : Heap} {locs : List Loc} {cells slots : Nat} {Q : State → Prop} {cc : ByteArray} {pc index nL : Nat} {ls : Array Slot} {rest : List Value} {D : va_G} {cy : Nat → ClassId} {A0 : Nat → Prop} {S : St} {H0 : Heap} {own : String} {u : Unit} {a0 : Nat} {a1 : Nat} {S1 : St}  (hF : CallFix p m c cc nL s args ALLW own) (hsz : ls.size = nL) (hK : va_K D vwCl (tyL cy) s) (hP : SP D cy S H) (hD : ∀ a, S a ≠ none → A0 a) (hA : ∀ q, H0.size ≤ q → A0 q) (hS : va_S A0 H0 H locs) (hk : Cond.methodLink own index yX3_save ∈ ALLW) (hR : rm_X3_save.frames + 1 ≤ R.frames ∧ 8 + (2 + 11) + rm_X3_save.locals ≤ R.locals) (h : f_X3_save S a0 a1 = some S1) (hc : oO S a0 2 = some u) (hW : (rest.map fun v => v.category).sum ≤ 8) (hdg : decode cc pc = .ok (.invokevirtual index, 3)) (hf : cells + 0 ≤ R.cells ∧ slots + 0 ≤ R.slots)
    (kk : ∀ (H1 : Heap) (locs1 : List Loc), SP D cy S1 H1 → (∀ a, S1 a ≠ none → A0 a) → va_S A0 H0 H1 locs1 → W p l e R s m args below meth c H1 locs1 (cells + 0) (slots + 0) Q (F0 m (pc + 3) ls (rest))) : W p l e R s m args below meth c H locs cells slots Q (F0 m pc ls (.ref a1 :: .ref a0 :: rest)) := by
  exact k_vVm (As := [.ref a1]) hF hsz (m_X3_save l D cy H.size S a0 a1 S1 h) (cwV_of (n := 1) hF.2.2.2.2 hk wd_583 wd_584 wd_73 wd_585 rfl rfl (by decide +kernel) hR) rfl hK hP hD hA hS (ci := 2) hc rfl hW rfl hdg hf kk
/-- VowBlocks$History.size()I -/
def f_X3_size (S : St) (a0 : Nat) : Option (Int32) :=
  (gI S a0 2 1).bind fun x1 =>
  some x1
abbrev rm_X3_size : Room := { frames := 0, cells := 0, slots := 0, locals := 0 }
set_option maxHeartbeats 4000000 in
set_option maxRecDepth 100000 in
theorem m_X3_size (l : Launch) (D : va_G) (cy : Nat → ClassId) (S : St) (a0 : Nat) (r : Int32) (h : f_X3_size S a0 = some r) : Met l yX3_size (wsA yX3_size cX3_size 1 (some .int)) rm_X3_size (va_Pc [.ref a0] (PS D cy S)) (va_Qi (fun r' (_ : Unit) => r' = r) (fun _ _ => True) noA) 0 0 noA := by
  refine Met.ofW (cc := cX3_size) (maxL := 1) (ret := (some .int)) (by decide) rfl ?_
  intro p e s m args below meth c s₁ B hml hv
  obtain ⟨rfl, hP, hK⟩ := hv
  have hx := B.exec
  have hb := B.bytes
  have hr := B.returns
  have hts9 := atoms_spec (ws := wsA yX3_size cX3_size 1 (some .int)) B.pre
  have hts : ∀ w ∈ ALLW, w.before _ s = true := fun w h => hts9 w (List.mem_cons_of_mem _ h)
  have hown : s.vm.findClass RX3 = some m.cls := findClass_of_methodNamed B.named
  have hlocks := B.notSynchronized
  have hS : va_S noA s.heap s.heap [] := va_S.rf
  have hl := lv_entry [.ref a0] (n := 1) (Nat.le_of_ble_eq_true rfl)
  rw [lg_entry_eq]
  generalize (lg_sl [.ref a0] ++ List.replicate (1 - (lg_sl [.ref a0]).length) Slot.unset).toArray = ls at hl ⊢
  have hl : lv_has ls 1 [(0, .ref a0)] := hl
  rw [f_X3_size] at h
  refine lv_aload_n hx hb dX3_size_0 rfl (lv_at hl 0 rfl) ?_
  replace h := bd h
  obtain ⟨x1, q2, h⟩ := h
  refine fg_2_1 hx hb hts hown hK hP wd_184 q2 dX3_size_1 ?_
  cases h
  exact e_ip hx hb hlocks hr hS (Nat.le_of_ble_eq_true rfl) (Nat.le_of_ble_eq_true rfl) dX3_size_4
set_option maxRecDepth 100000 in
theorem c_X3_size {p : Program} {l : Launch} {e : Env} {R : Room} {s : State} {m : MethodId} {args : Array Value} {below : List Frame} {meth : Method} {c : Code} {H : Heap} {locs : List Loc} {cells slots : Nat} {Q : State → Prop} {cc : ByteArray} {pc index nL : Nat} {ls : Array Slot} {rest : List Value} {D : va_G} {cy : Nat → ClassId} {A0 : Nat → Prop} {S : St} {H0 : Heap} {own : String} {u : Unit} {a0 : Nat} {r : Int32}  (hF : CallFix p m c cc nL s args ALLW own) (hsz : ls.size = nL) (hK : va_K D vwCl (tyL cy) s) (hP : SP D cy S H) (hS : va_S A0 H0 H locs) (hk : Cond.methodLink own index yX3_size ∈ ALLW) (hR : rm_X3_size.frames + 1 ≤ R.frames ∧ 8 + (1 + 11) + rm_X3_size.locals ≤ R.locals) (h : f_X3_size S a0 = some r) (hc : oO S a0 2 = some u) (hW : (rest.map fun v => v.category).sum ≤ 8) (hdg : decode cc pc = .ok (.invokevirtual index, 3)) (hf : cells + 0 ≤ R.cells ∧ slots + 0 ≤ R.slots)
    (kk : ∀ (H1 : Heap) (locs1 : List Loc), SP D cy S H1 → va_S A0 H0 H1 locs1 → W p l e R s m args below meth c H1 locs1 (cells + 0) (slots + 0) Q (F0 m (pc + 3) ls (.int r :: rest))) : W p l e R s m args below meth c H locs cells slots Q (F0 m pc ls (.ref a0 :: rest)) := by
  exact k_iVp (As := []) hF hsz (m_X3_size l D cy S a0 r h) (cwV_of (n := 0) hF.2.2.2.2 hk wd_341 wd_342 wd_73 wd_343 rfl rfl (by decide +kernel) hR) rfl hK hP hS (ci := 2) hc rfl hW rfl hdg hf kk
/-- VowBlocks$History.restore(LVowBlocks$Column;)V -/
def f_X3_restore (S : St) (a0 : Nat) (a1 : Nat) : Option (St) :=
  (gI S a0 2 1).bind fun x1 =>
  (
    if x1 ≤ 0 then
      some S
    else
      (gI S a0 2 1).bind fun x5 =>
      (pI S a0 2 1 (x5 - 1)).bind fun Z7 =>
      (gR Z7 a0 2 0).bind fun x9 =>
      (gI Z7 a0 2 1).bind fun x11 =>
      (aR Z7 x9 2 x11).bind fun x13 =>
      (oO Z7 a1 1).bind fun _ =>
      (f_X2_copyFrom Z7 a1 x13).bind fun z17 =>
      some z17
  : Option (St)).bind fun t3 =>
  some t3
abbrev rm_X3_restore : Room := { frames := 3, cells := 0, slots := 0, locals := 65 }
set_option maxHeartbeats 4000000 in
set_option maxRecDepth 100000 in
theorem m_X3_restore (l : Launch) (D : va_G) (cy : Nat → ClassId) (sz : Nat) (S : St) (a0 : Nat) (a1 : Nat) (S1 : St) (h : f_X3_restore S a0 a1 = some S1) : Met l yX3_restore (wsA yX3_restore cX3_restore 2 none) rm_X3_restore (va_Pc [.ref a0, .ref a1] (PN D cy S sz)) (va_Qv (fun _ : Unit => True) (fun _ t => PoS D cy S1 (dm S sz) t) (dm S sz)) 0 0 (dm S sz) := by
  refine Met.ofW (cc := cX3_restore) (maxL := 2) (ret := none) (by decide) rfl ?_
  intro p e s m args below meth c s₁ B hml hv
  obtain ⟨rfl, hsz, hP, hK⟩ := hv
  have hx := B.exec
  have hb := B.bytes
  have hr := B.returns
  have hts9 := atoms_spec (ws := wsA yX3_restore cX3_restore 2 none) B.pre
  have hts : ∀ w ∈ ALLW, w.before _ s = true := fun w h => hts9 w (List.mem_cons_of_mem _ h)
  have hown : s.vm.findClass RX3 = some m.cls := findClass_of_methodNamed B.named
  have hlocks := B.notSynchronized
  subst hsz
  have hD : ∀ a, S a ≠ none → dm S s.heap.size a := fun a h => Or.inl h
  have hA : ∀ q : Nat, s.heap.size ≤ q → dm S s.heap.size q := fun q h => Or.inr h
  have hS : va_S (dm S s.heap.size) s.heap s.heap [] := va_S.rf
  have hl := lv_entry [.ref a0, .ref a1] (n := 2) (Nat.le_of_ble_eq_true rfl)
  rw [lg_entry_eq]
  generalize (lg_sl [.ref a0, .ref a1] ++ List.replicate (2 - (lg_sl [.ref a0, .ref a1]).length) Slot.unset).toArray = ls at hl ⊢
  have hl : lv_has ls 2 [(0, .ref a0), (1, .ref a1)] := hl
  rw [f_X3_restore] at h
  refine lv_aload_n hx hb dX3_restore_0 rfl (lv_at hl 0 rfl) ?_
  replace h := bd h
  obtain ⟨x1, q2, h⟩ := h
  refine fg_2_1 hx hb hts hown hK hP wd_184 q2 dX3_restore_1 ?_
  replace h := bd h
  obtain ⟨t3, ht, h⟩ := h
  have K3 : ∀ (H : Heap) (locs : List Loc) (ls : Array Slot), SP D cy t3 H → (∀ a, t3 a ≠ none → (dm S s.heap.size) a) → va_S (dm S s.heap.size) s.heap H locs → lv_has ls 2 [] → W p l e rm_X3_restore s m ([.ref a0, .ref a1] : List Value).toArray below meth c H locs 0 0 (MQ below (va_Qv (fun _ : Unit => True) (fun _ t => PoS D cy S1 (dm S s.heap.size) t) (dm S s.heap.size)) ([.ref a0, .ref a1] : List Value).toArray s 0 0 (dm S s.heap.size)) (F0 m 30 ls []) := by
    intro H locs ls hP hD hS hl
    cases h
    exact e_vm hx hb hlocks hr hP hD hS (Nat.le_of_ble_eq_true rfl) (Nat.le_of_ble_eq_true rfl) dX3_restore_30
  replace h := ht
  refine lv_if_le (tgt := 30) hx hb dX3_restore_4 (by decide) (fun c4 => ?_) (fun c4 => ?_)
  · replace h := ifp c4 h
    cases h
    exact K3 _ _ _ hP hD hS (lv_sub hl [] rfl)
  · replace h := ifn c4 h
    refine lv_aload_n hx hb dX3_restore_7 rfl (lv_at hl 0 rfl) ?_
    refine lv_dup hx hb dX3_restore_8 rfl ?_
    replace h := bd h
    obtain ⟨x5, q6, h⟩ := h
    refine fg_2_1 hx hb hts hown hK hP wd_184 q6 dX3_restore_9 ?_
    refine lv_iconst (v := 1) hx hb dX3_restore_12 (by decide) ?_
    refine lv_isub hx hb dX3_restore_13 ?_
    replace h := bd h
    obtain ⟨Z7, q8, h⟩ := h
    refine fp_2_1 hx hb hts hown hK hP hD hS wd_184 q8 dX3_restore_14 (fun H locs hz9 hP hD hS => ?_)
    refine lv_aload_n hx hb dX3_restore_17 rfl (lv_at hl 1 rfl) ?_
    refine lv_aload_n hx hb dX3_restore_18 rfl (lv_at hl 0 rfl) ?_
    replace h := bd h
    obtain ⟨x9, q10, h⟩ := h
    refine fg_2_0 hx hb hts hown hK hP wd_183 q10 dX3_restore_19 ?_
    refine lv_aload_n hx hb dX3_restore_22 rfl (lv_at hl 0 rfl) ?_
    replace h := bd h
    obtain ⟨x11, q12, h⟩ := h
    refine fg_2_1 hx hb hts hown hK hP wd_184 q12 dX3_restore_23 ?_
    replace h := bd h
    obtain ⟨x13, q14, h⟩ := h
    refine r_aR hx hb hK hP (t := 2) rfl q14 dX3_restore_26 ?_
    replace h := bd h
    obtain ⟨_, q15, h⟩ := h
    replace h := bd h
    obtain ⟨z17, q16, h⟩ := h
    refine c_X2_copyFrom ⟨hx, hb, hml, hown, hts⟩ hl.1 hK hP hD hA hS wd_590 ⟨(Nat.le_of_ble_eq_true rfl), (Nat.le_of_ble_eq_true rfl)⟩ q16 q15 (Nat.le_of_ble_eq_true rfl) dX3_restore_27 ⟨(Nat.le_of_ble_eq_true rfl), (Nat.le_of_ble_eq_true rfl)⟩ (fun H locs hP hD hS => ?_)
    cases h
    exact K3 _ _ _ hP hD hS (lv_sub hl [] rfl)
set_option maxRecDepth 100000 in
theorem c_X3_restore {p : Program} {l : Launch} {e : Env} {R : Room} {s : State} {m : MethodId} {args : Array Value} {below : List Frame} {meth : Method} {c : Code} {H : Heap} {locs : List Loc} {cells slots : Nat} {Q : State → Prop} {cc : ByteArray} {pc index nL : Nat} {ls : Array Slot} {rest : List Value} {D : va_G} {cy : Nat → ClassId} {A0 : Nat → Prop} {S : St} {H0 : Heap} {own : String} {u : Unit} {a0 : Nat} {a1 : Nat} {S1 : St}  (hF : CallFix p m c cc nL s args ALLW own) (hsz : ls.size = nL) (hK : va_K D vwCl (tyL cy) s) (hP : SP D cy S H) (hD : ∀ a, S a ≠ none → A0 a) (hA : ∀ q, H0.size ≤ q → A0 q) (hS : va_S A0 H0 H locs) (hk : Cond.methodLink own index yX3_restore ∈ ALLW) (hR : rm_X3_restore.frames + 1 ≤ R.frames ∧ 8 + (2 + 11) + rm_X3_restore.locals ≤ R.locals) (h : f_X3_restore S a0 a1 = some S1) (hc : oO S a0 2 = some u) (hW : (rest.map fun v => v.category).sum ≤ 8) (hdg : decode cc pc = .ok (.invokevirtual index, 3)) (hf : cells + 0 ≤ R.cells ∧ slots + 0 ≤ R.slots)
    (kk : ∀ (H1 : Heap) (locs1 : List Loc), SP D cy S1 H1 → (∀ a, S1 a ≠ none → A0 a) → va_S A0 H0 H1 locs1 → W p l e R s m args below meth c H1 locs1 (cells + 0) (slots + 0) Q (F0 m (pc + 3) ls (rest))) : W p l e R s m args below meth c H locs cells slots Q (F0 m pc ls (.ref a1 :: .ref a0 :: rest)) := by
  exact k_vVm (As := [.ref a1]) hF hsz (m_X3_restore l D cy H.size S a0 a1 S1 h) (cwV_of (n := 1) hF.2.2.2.2 hk wd_808 wd_809 wd_73 wd_810 rfl rfl (by decide +kernel) hR) rfl hK hP hD hA hS (ci := 2) hc rfl hW rfl hdg hf kk
