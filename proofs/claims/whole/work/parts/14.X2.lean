/-- VowBlocks$Column.<init>()V -/
def f_X2_init_L36 (y36_0 : Nat) : Nat → St → Nat → Int32 →  Option (St × Nat)
  | 0, _, _, _ => none
  | fu + 1, S36_, sz36, y36_1 =>
    (gR S36_ y36_0 1 0).bind fun x13 =>
    (aN S36_ x13 1).bind fun x15 =>
    if x15 ≤ y36_1 then
      some (S36_, sz36)
    else
      (gR S36_ y36_0 1 0).bind fun x18 =>
      (f_X0_init (va_up S36_ sz36 (some (.inl (0, [.null, .int 0, .int 0, .int 0, .int 0, .int 0, .int 0, .int 0])))) (sz36 + 1) sz36).bind fun z21 =>
      (sR z21.1 x18 1 0 y36_1 sz36).bind fun Z23 =>
      f_X2_init_L36 y36_0 fu Z23 z21.2 (y36_1 + 1)
def f_X2_init (S : St) (sz : Nat) (a0 : Nat) : Option (St × Nat) :=
  (pR (va_up S sz (some (arR 1 8 (fun _ => none)))) a0 1 0 sz).bind fun Z1 =>
  (pI Z1 a0 1 1 0).bind fun Z3 =>
  (pI Z3 a0 1 2 0).bind fun Z5 =>
  (pI Z5 a0 1 3 30).bind fun Z7 =>
  (pI Z7 a0 1 4 4).bind fun Z9 =>
  (f_X2_init_L36 a0 9 Z9 (sz + 1) 0).bind fun z11 =>
  some (z11.1, z11.2)
abbrev rm_X2_init : Room := { frames := 3, cells := 28, slots := 314, locals := 52 }
set_option maxHeartbeats 4000000 in
set_option maxRecDepth 100000 in
theorem m_X2_init (l : Launch) (D : va_G) (cy : Nat → ClassId) (sz : Nat) (S : St) (a0 : Nat) (S1 : St) (sz1 : Nat) (h : f_X2_init S sz a0 = some (S1, sz1)) : Met l yX2_init (wsA yX2_init cX2_init 2 none) rm_X2_init (va_Pc [.ref a0] (PNA D cy S sz)) (va_Qv (fun _ : Unit => True) (fun _ t => t.heap.size = sz1 ∧ PoS D cy S1 (dm S sz) t) (dm S sz)) 28 314 (dm S sz) := by
  refine Met.ofW (cc := cX2_init) (maxL := 2) (ret := none) (by decide) rfl ?_
  intro p e s m args below meth c s₁ B hml hv
  obtain ⟨rfl, hz, hP, hK, hE⟩ := hv
  have hx := B.exec
  have hb := B.bytes
  have hr := B.returns
  have hts9 := atoms_spec (ws := wsA yX2_init cX2_init 2 none) B.pre
  have hts : ∀ w ∈ ALLW, w.before _ s = true := fun w h => hts9 w (List.mem_cons_of_mem _ h)
  have hown : s.vm.findClass RX2 = some m.cls := findClass_of_methodNamed B.named
  have hlocks := B.notSynchronized
  have hin : meth.name = "<init>" := (name_of_methodNamed B.named B.method).1
  have hD : ∀ a, S a ≠ none → dm S sz a := fun a h => Or.inl h
  have hA : ∀ q : Nat, s.heap.size ≤ q → dm S sz q := fun q h => Or.inr (hz ▸ h)
  have hS : va_S (dm S sz) s.heap s.heap [] := va_S.rf
  have hov1 := va_AO.use (A := ([.ref a0] : List Value).toArray) hE.2.1
  have hl := lv_entry [.ref a0] (n := 2) (Nat.le_of_ble_eq_true rfl)
  rw [lg_entry_eq]
  generalize (lg_sl [.ref a0] ++ List.replicate (2 - (lg_sl [.ref a0]).length) Slot.unset).toArray = ls at hl ⊢
  have hl : lv_has ls 2 [(0, .ref a0)] := hl
  rw [f_X2_init] at h
  refine lv_aload_n hx hb dX2_init_0 rfl (lv_at hl 0 rfl) ?_
  refine W.objInit hx hb hown (hts _ wd_98) (hts _ wd_91) (hts _ wd_92) rfl (hl.1.trans hml.symm) rfl dX2_init_1 (Nat.le_of_ble_eq_true rfl) (Nat.le_of_ble_eq_true rfl) ?_
  refine lv_aload_n hx hb dX2_init_4 rfl (lv_at hl 0 rfl) ?_
  refine lv_bipush (v := 8) hx hb dX2_init_5 (by decide) ?_
  refine r_newq (C := RX0) (t := 1) hx hb hown (hts _ wd_99) hov1 hK rfl hP hD hS hA (N := 8) (by decide) (by decide) (by decide) (Nat.le_of_ble_eq_true rfl) (Nat.le_of_ble_eq_true rfl) dX2_init_7 hz (fun H hz hP hD hS => ?_)
  replace h := bd h
  obtain ⟨Z1, q2, h⟩ := h
  refine fp_1_0 hx hb hts hown hK hP hD hS hin rfl wd_155 q2 dX2_init_10 (fun H locs hz9 hP hD hS => ?_)
  replace hz := hz9.trans hz
  refine lv_aload_n hx hb dX2_init_13 rfl (lv_at hl 0 rfl) ?_
  refine lv_iconst (v := 0) hx hb dX2_init_14 (by decide) ?_
  replace h := bd h
  obtain ⟨Z3, q4, h⟩ := h
  refine fp_1_1 hx hb hts hown hK hP hD hS wd_156 q4 dX2_init_15 (fun H locs hz9 hP hD hS => ?_)
  replace hz := hz9.trans hz
  refine lv_aload_n hx hb dX2_init_18 rfl (lv_at hl 0 rfl) ?_
  refine lv_iconst (v := 0) hx hb dX2_init_19 (by decide) ?_
  replace h := bd h
  obtain ⟨Z5, q6, h⟩ := h
  refine fp_1_2 hx hb hts hown hK hP hD hS wd_157 q6 dX2_init_20 (fun H locs hz9 hP hD hS => ?_)
  replace hz := hz9.trans hz
  refine lv_aload_n hx hb dX2_init_23 rfl (lv_at hl 0 rfl) ?_
  refine lv_bipush (v := 30) hx hb dX2_init_24 (by decide) ?_
  replace h := bd h
  obtain ⟨Z7, q8, h⟩ := h
  refine fp_1_3 hx hb hts hown hK hP hD hS wd_159 q8 dX2_init_26 (fun H locs hz9 hP hD hS => ?_)
  replace hz := hz9.trans hz
  refine lv_aload_n hx hb dX2_init_29 rfl (lv_at hl 0 rfl) ?_
  refine lv_iconst (v := 4) hx hb dX2_init_30 (by decide) ?_
  replace h := bd h
  obtain ⟨Z9, q10, h⟩ := h
  refine fp_1_4 hx hb hts hown hK hP hD hS wd_161 q10 dX2_init_31 (fun H locs hz9 hP hD hS => ?_)
  replace hz := hz9.trans hz
  refine lv_iconst (v := 0) hx hb dX2_init_34 (by decide) ?_
  refine lv_istore_n (lv' := [(1, .int 0), (0, .ref a0)]) hx hb dX2_init_35 rfl hl (by decide) rfl (fun ls hl => ?_)
  have L36 : ∀ (y36_0 : Nat) (fu : Nat) (S36_ : St) (sz36 : Nat) (y36_1 : Int32) (res : St × Nat), f_X2_init_L36 y36_0 fu S36_ sz36 y36_1 = some res → ∀ (cs sl9 : Nat), cs + 3 * fu ≤ 28 → sl9 + 34 * fu ≤ 314 → ∀ (H : Heap) (locs : List Loc) (ls : Array Slot), H.size = sz36 → SP D cy S36_ H → (∀ a, S36_ a ≠ none → (dm S sz) a) → va_S (dm S sz) s.heap H locs → lv_has ls 2 [(0, .ref y36_0), (1, .int y36_1)] → (∀ (cs sl9 : Nat), cs ≤ 28 → sl9 ≤ 314 → ∀ (H : Heap) (locs : List Loc) (ls : Array Slot), H.size = res.2 → SP D cy res.1 H → (∀ a, res.1 a ≠ none → (dm S sz) a) → va_S (dm S sz) s.heap H locs → lv_has ls 2 [] → W p l e rm_X2_init s m ([.ref a0] : List Value).toArray below meth c H locs cs sl9 (MQ below (va_Qv (fun _ : Unit => True) (fun _ t => t.heap.size = sz1 ∧ PoS D cy S1 (dm S sz) t) (dm S sz)) ([.ref a0] : List Value).toArray s 28 314 (dm S sz)) (F0 m 64 ls [])) → W p l e rm_X2_init s m ([.ref a0] : List Value).toArray below meth c H locs cs sl9 (MQ below (va_Qv (fun _ : Unit => True) (fun _ t => t.heap.size = sz1 ∧ PoS D cy S1 (dm S sz) t) (dm S sz)) ([.ref a0] : List Value).toArray s 28 314 (dm S sz)) (F0 m 36 ls []) := by
    intro y36_0 fu
    induction fu with
    | zero =>
      intro S36_ sz36 y36_1 res h
      rw [f_X2_init_L36] at h
      cases h
    | succ fu ih =>
      intro S36_ sz36 y36_1 res h cs sl9 hcs hsl H locs ls hz hP hD hS hl hexit
      rw [f_X2_init_L36] at h
      refine lv_iload_n hx hb dX2_init_36 rfl (lv_at hl 1 rfl) ?_
      refine lv_aload_n hx hb dX2_init_37 rfl (lv_at hl 0 rfl) ?_
      replace h := bd h
      obtain ⟨x13, q14, h⟩ := h
      refine fg_1_0 hx hb hts hown hK hP wd_155 q14 dX2_init_38 ?_
      replace h := bd h
      obtain ⟨x15, q16, h⟩ := h
      refine r_aN hx hb hK hP (t := 1) rfl q16 dX2_init_41 ?_
      refine lv_icmp_ge (tgt := 64) hx hb dX2_init_42 (by decide) (fun c17 => ?_) (fun c17 => ?_)
      · replace h := ifp c17 h
        cases h
        exact hexit _ _ (by omega) (by omega) _ _ _ hz hP hD hS (lv_sub hl [] rfl)
      · replace h := ifn c17 h
        refine lv_aload_n hx hb dX2_init_45 rfl (lv_at hl 0 rfl) ?_
        replace h := bd h
        obtain ⟨x18, q19, h⟩ := h
        refine fg_1_0 hx hb hts hown hK hP wd_155 q19 dX2_init_46 ?_
        refine lv_iload_n hx hb dX2_init_49 rfl (lv_at hl 1 rfl) ?_
        refine r_new (ci := 0) (fs := [.null, .int 0, .int 0, .int 0, .int 0, .int 0, .int 0, .int 0]) (T := TX0) (N := 8) hx hb hts iX0 tyX0 tyX0_ok hown (hts _ wd_99) (hts _ wd_101) (hts _ wd_71) hK hP hD hS hA rfl (fun j hj => by have h9 : j < 8 := hj; match j, h9 with | 0, _ => rfl | 1, _ => rfl | 2, _ => rfl | 3, _ => rfl | 4, _ => rfl | 5, _ => rfl | 6, _ => rfl | 7, _ => rfl) (by show (cs + 0) + 1 ≤ 28; omega) (by show (sl9 + 0) + 8 ≤ 314; omega) dX2_init_50 hz (fun H hz hP hD hS => ?_)
        refine lv_dup hx hb dX2_init_53 rfl ?_
        replace h := bd h
        obtain ⟨z21, q22, h⟩ := h
        refine c_X0_init_n ⟨hx, hb, hml, hown, hts⟩ hl.1 hK hP hD hA hS hE (hE.1 _ wn_102) ⟨(Nat.le_of_ble_eq_true rfl), (Nat.le_of_ble_eq_true rfl)⟩ q22 hz (Nat.le_of_ble_eq_true rfl) dX2_init_54 ⟨(by show (cs + 1) + 2 ≤ 28; omega), (by show (sl9 + 8) + 26 ≤ 314; omega)⟩ (fun H locs hz hP hD hS => ?_)
        replace h := bd h
        obtain ⟨Z23, q24, h⟩ := h
        refine r_sR hx hb hK hP hD hS (t := 1) rfl rfl q24 dX2_init_57 (fun H locs hz9 hP hD hS => ?_)
        replace hz := hz9.trans hz
        refine lv_iinc (v := (y36_1 + 1)) (lv' := [(1, .int (y36_1 + 1)), (0, .ref y36_0)]) hx hb dX2_init_58 hl (k := 1) rfl rfl (by decide) rfl (fun ls hl => ?_)
        refine lv_goto (tgt := 36) hx hb dX2_init_61 (by decide) ?_
        exact ih Z23 z21.2 (y36_1 + 1) _ h (cs + 3) (sl9 + 34) (by omega) (by omega) _ _ _ hz hP hD hS (lv_sub hl [1, 0] rfl) hexit
  replace h := bd h
  obtain ⟨z11, q25, h⟩ := h
  refine L36 a0 9 Z9 (sz + 1) 0 z11 q25 1 8 (by decide) (by decide) _ _ _ hz hP hD hS (lv_sub hl [1, 0] rfl) (fun cz9 sz9 hcz9 hsz9 H locs ls hz hP hD hS hl => ?_)
  cases h
  exact e_vA hx hb hlocks hr hP hD hz hS (by show (cz9 + 0) ≤ 28; omega) (by show (sz9 + 0) ≤ 314; omega) dX2_init_64
set_option maxRecDepth 100000 in
theorem c_X2_init {p : Program} {l : Launch} {e : Env} {R : Room} {s : State} {m : MethodId} {args : Array Value} {below : List Frame} {meth : Method} {c : Code} {H : Heap} {locs : List Loc} {cells slots : Nat} {Q : State → Prop} {cc : ByteArray} {pc index nL : Nat} {ls : Array Slot} {rest : List Value} {D : va_G} {cy : Nat → ClassId} {A0 : Nat → Prop} {S : St} {H0 : Heap} {own : String} {a0 : Nat} {S1 : St} {sz1 szv : Nat}  (hF : CallFix p m c cc nL s args ALLW own) (hsz : ls.size = nL) (hK : va_K D vwCl (tyL cy) s) (hP : SP D cy S H) (hD : ∀ a, S a ≠ none → A0 a) (hA : ∀ q, H0.size ≤ q → A0 q) (hS : va_S A0 H0 H locs) (hE : NWA s) (hk : Cond.methodLink own index yX2_init ∈ ALLW) (hR : rm_X2_init.frames + 1 ≤ R.frames ∧ 8 + (2 + 11) + rm_X2_init.locals ≤ R.locals) (h : f_X2_init S szv a0 = some (S1, sz1)) (hz : H.size = szv) (hW : (rest.map fun v => v.category).sum ≤ 8) (hdg : decode cc pc = .ok (.invokespecial index, 3)) (hf : cells + 28 ≤ R.cells ∧ slots + 314 ≤ R.slots)
    (kk : ∀ (H1 : Heap) (locs1 : List Loc), H1.size = sz1 → SP D cy S1 H1 → (∀ a, S1 a ≠ none → A0 a) → va_S A0 H0 H1 locs1 → W p l e R s m args below meth c H1 locs1 (cells + 28) (slots + 314) Q (F0 m (pc + 3) ls (rest))) : W p l e R s m args below meth c H locs cells slots Q (F0 m pc ls (.ref a0 :: rest)) := by
  subst hz
  exact k_I (As := []) (host := "") hF hsz (m_X2_init l D cy H.size S a0 S1 sz1 h) (cwI_of (n := 0) hF.2.2.2.2 hk wd_96 wd_70 wd_97 rfl rfl rfl (by decide +kernel) hR) rfl hK hP hD hA hS hE hW rfl hdg hf kk
/-- VowBlocks$Column.isFull()Z -/
def f_X2_isFull (S : St) (a0 : Nat) : Option (Int32) :=
  (gI S a0 1 1).bind fun x1 =>
  (gR S a0 1 0).bind fun x3 =>
  (aN S x3 1).bind fun x5 =>
  (
    if x1 < x5 then
      some 0
    else
      some 1
  : Option (Int32)).bind fun t7 =>
  (zz t7).bind fun _ =>
  some t7
abbrev rm_X2_isFull : Room := { frames := 0, cells := 0, slots := 0, locals := 0 }
set_option maxHeartbeats 4000000 in
set_option maxRecDepth 100000 in
theorem m_X2_isFull (l : Launch) (D : va_G) (cy : Nat → ClassId) (S : St) (a0 : Nat) (r : Int32) (h : f_X2_isFull S a0 = some r) : Met l yX2_isFull (wsA yX2_isFull cX2_isFull 1 (some .boolean)) rm_X2_isFull (va_Pc [.ref a0] (PS D cy S)) (va_Qi (fun r' (_ : Unit) => r' = r) (fun _ _ => True) noA) 0 0 noA := by
  refine Met.ofW (cc := cX2_isFull) (maxL := 1) (ret := (some .boolean)) (by decide) rfl ?_
  intro p e s m args below meth c s₁ B hml hv
  obtain ⟨rfl, hP, hK⟩ := hv
  have hx := B.exec
  have hb := B.bytes
  have hr := B.returns
  have hts9 := atoms_spec (ws := wsA yX2_isFull cX2_isFull 1 (some .boolean)) B.pre
  have hts : ∀ w ∈ ALLW, w.before _ s = true := fun w h => hts9 w (List.mem_cons_of_mem _ h)
  have hown : s.vm.findClass RX2 = some m.cls := findClass_of_methodNamed B.named
  have hlocks := B.notSynchronized
  have hS : va_S noA s.heap s.heap [] := va_S.rf
  have hl := lv_entry [.ref a0] (n := 1) (Nat.le_of_ble_eq_true rfl)
  rw [lg_entry_eq]
  generalize (lg_sl [.ref a0] ++ List.replicate (1 - (lg_sl [.ref a0]).length) Slot.unset).toArray = ls at hl ⊢
  have hl : lv_has ls 1 [(0, .ref a0)] := hl
  rw [f_X2_isFull] at h
  refine lv_aload_n hx hb dX2_isFull_0 rfl (lv_at hl 0 rfl) ?_
  replace h := bd h
  obtain ⟨x1, q2, h⟩ := h
  refine fg_1_1 hx hb hts hown hK hP wd_156 q2 dX2_isFull_1 ?_
  refine lv_aload_n hx hb dX2_isFull_4 rfl (lv_at hl 0 rfl) ?_
  replace h := bd h
  obtain ⟨x3, q4, h⟩ := h
  refine fg_1_0 hx hb hts hown hK hP wd_155 q4 dX2_isFull_5 ?_
  replace h := bd h
  obtain ⟨x5, q6, h⟩ := h
  refine r_aN hx hb hK hP (t := 1) rfl q6 dX2_isFull_8 ?_
  replace h := bd h
  obtain ⟨t7, ht, h⟩ := h
  have K7 : ∀ (H : Heap) (locs : List Loc) (ls : Array Slot), SP D cy S H → va_S noA s.heap H locs → lv_has ls 1 [] → W p l e rm_X2_isFull s m ([.ref a0] : List Value).toArray below meth c H locs 0 0 (MQ below (va_Qi (fun r' (_ : Unit) => r' = r) (fun _ _ => True) noA) ([.ref a0] : List Value).toArray s 0 0 noA) (F0 m 17 ls [.int t7]) := by
    intro H locs ls hP hS hl
    replace h := bd h
    obtain ⟨_, q9, h⟩ := h
    cases h
    exact e_zp hx hb hlocks (zz_spec q9) hr hS (Nat.le_of_ble_eq_true rfl) (Nat.le_of_ble_eq_true rfl) dX2_isFull_17
  replace h := ht
  refine lv_icmp_lt (tgt := 16) hx hb dX2_isFull_9 (by decide) (fun c8 => ?_) (fun c8 => ?_)
  · replace h := ifp c8 h
    refine lv_iconst (v := 0) hx hb dX2_isFull_16 (by decide) ?_
    cases h
    exact K7 _ _ _ hP hS (lv_sub hl [] rfl)
  · replace h := ifn c8 h
    refine lv_iconst (v := 1) hx hb dX2_isFull_12 (by decide) ?_
    refine lv_goto (tgt := 17) hx hb dX2_isFull_13 (by decide) ?_
    cases h
    exact K7 _ _ _ hP hS (lv_sub hl [] rfl)
set_option maxRecDepth 100000 in
theorem c_X2_isFull {p : Program} {l : Launch} {e : Env} {R : Room} {s : State} {m : MethodId} {args : Array Value} {below : List Frame} {meth : Method} {c : Code} {H : Heap} {locs : List Loc} {cells slots : Nat} {Q : State → Prop} {cc : ByteArray} {pc index nL : Nat} {ls : Array Slot} {rest : List Value} {D : va_G} {cy : Nat → ClassId} {A0 : Nat → Prop} {S : St} {H0 : Heap} {own : String} {u : Unit} {a0 : Nat} {r : Int32}  (hF : CallFix p m c cc nL s args ALLW own) (hsz : ls.size = nL) (hK : va_K D vwCl (tyL cy) s) (hP : SP D cy S H) (hS : va_S A0 H0 H locs) (hk : Cond.methodLink own index yX2_isFull ∈ ALLW) (hR : rm_X2_isFull.frames + 1 ≤ R.frames ∧ 8 + (1 + 11) + rm_X2_isFull.locals ≤ R.locals) (h : f_X2_isFull S a0 = some r) (hc : oO S a0 1 = some u) (hW : (rest.map fun v => v.category).sum ≤ 8) (hdg : decode cc pc = .ok (.invokevirtual index, 3)) (hf : cells + 0 ≤ R.cells ∧ slots + 0 ≤ R.slots)
    (kk : ∀ (H1 : Heap) (locs1 : List Loc), SP D cy S H1 → va_S A0 H0 H1 locs1 → W p l e R s m args below meth c H1 locs1 (cells + 0) (slots + 0) Q (F0 m (pc + 3) ls (.int r :: rest))) : W p l e R s m args below meth c H locs cells slots Q (F0 m pc ls (.ref a0 :: rest)) := by
  exact k_iVp (As := []) hF hsz (m_X2_isFull l D cy S a0 r h) (cwV_of (n := 0) hF.2.2.2.2 hk wd_558 wd_559 wd_70 wd_560 rfl rfl (by decide +kernel) hR) rfl hK hP hS (ci := 1) hc rfl hW rfl hdg hf kk
/-- VowBlocks$Column.copyFrom(LVowBlocks$Column;)V -/
def f_X2_copyFrom_L34 (y34_0 : Nat) (y34_1 : Nat) : Nat → St → Int32 →  Option (St)
  | 0, _, _ => none
  | fu + 1, S34_, y34_2 =>
    (gI S34_ y34_0 1 1).bind fun x19 =>
    if x19 ≤ y34_2 then
      some S34_
    else
      (gR S34_ y34_0 1 0).bind fun x22 =>
      (aR S34_ x22 1 y34_2).bind fun x24 =>
      (gR S34_ y34_1 1 0).bind fun x26 =>
      (aR S34_ x26 1 y34_2).bind fun x28 =>
      (oO S34_ x24 0).bind fun _ =>
      (f_X0_copyFrom S34_ x24 x28).bind fun z32 =>
      f_X2_copyFrom_L34 y34_0 y34_1 fu z32 (y34_2 + 1)
def f_X2_copyFrom (S : St) (a0 : Nat) (a1 : Nat) : Option (St) :=
  (gI S a1 1 1).bind fun x1 =>
  (pI S a0 1 1 x1).bind fun Z3 =>
  (gI Z3 a1 1 2).bind fun x5 =>
  (pI Z3 a0 1 2 x5).bind fun Z7 =>
  (gI Z7 a1 1 3).bind fun x9 =>
  (pI Z7 a0 1 3 x9).bind fun Z11 =>
  (gI Z11 a1 1 4).bind fun x13 =>
  (pI Z11 a0 1 4 x13).bind fun Z15 =>
  (f_X2_copyFrom_L34 a0 a1 FU Z15 0).bind fun z17 =>
  some z17
abbrev rm_X2_copyFrom : Room := { frames := 2, cells := 0, slots := 0, locals := 43 }
set_option maxHeartbeats 4000000 in
set_option maxRecDepth 100000 in
theorem m_X2_copyFrom (l : Launch) (D : va_G) (cy : Nat → ClassId) (sz : Nat) (S : St) (a0 : Nat) (a1 : Nat) (S1 : St) (h : f_X2_copyFrom S a0 a1 = some S1) : Met l yX2_copyFrom (wsA yX2_copyFrom cX2_copyFrom 3 none) rm_X2_copyFrom (va_Pc [.ref a0, .ref a1] (PN D cy S sz)) (va_Qv (fun _ : Unit => True) (fun _ t => PoS D cy S1 (dm S sz) t) (dm S sz)) 0 0 (dm S sz) := by
  refine Met.ofW (cc := cX2_copyFrom) (maxL := 3) (ret := none) (by decide) rfl ?_
  intro p e s m args below meth c s₁ B hml hv
  obtain ⟨rfl, hsz, hP, hK⟩ := hv
  have hx := B.exec
  have hb := B.bytes
  have hr := B.returns
  have hts9 := atoms_spec (ws := wsA yX2_copyFrom cX2_copyFrom 3 none) B.pre
  have hts : ∀ w ∈ ALLW, w.before _ s = true := fun w h => hts9 w (List.mem_cons_of_mem _ h)
  have hown : s.vm.findClass RX2 = some m.cls := findClass_of_methodNamed B.named
  have hlocks := B.notSynchronized
  subst hsz
  have hD : ∀ a, S a ≠ none → dm S s.heap.size a := fun a h => Or.inl h
  have hA : ∀ q : Nat, s.heap.size ≤ q → dm S s.heap.size q := fun q h => Or.inr h
  have hS : va_S (dm S s.heap.size) s.heap s.heap [] := va_S.rf
  have hl := lv_entry [.ref a0, .ref a1] (n := 3) (Nat.le_of_ble_eq_true rfl)
  rw [lg_entry_eq]
  generalize (lg_sl [.ref a0, .ref a1] ++ List.replicate (3 - (lg_sl [.ref a0, .ref a1]).length) Slot.unset).toArray = ls at hl ⊢
  have hl : lv_has ls 3 [(0, .ref a0), (1, .ref a1)] := hl
  rw [f_X2_copyFrom] at h
  refine lv_aload_n hx hb dX2_copyFrom_0 rfl (lv_at hl 0 rfl) ?_
  refine lv_aload_n hx hb dX2_copyFrom_1 rfl (lv_at hl 1 rfl) ?_
  replace h := bd h
  obtain ⟨x1, q2, h⟩ := h
  refine fg_1_1 hx hb hts hown hK hP wd_156 q2 dX2_copyFrom_2 ?_
  replace h := bd h
  obtain ⟨Z3, q4, h⟩ := h
  refine fp_1_1 hx hb hts hown hK hP hD hS wd_156 q4 dX2_copyFrom_5 (fun H locs hz9 hP hD hS => ?_)
  refine lv_aload_n hx hb dX2_copyFrom_8 rfl (lv_at hl 0 rfl) ?_
  refine lv_aload_n hx hb dX2_copyFrom_9 rfl (lv_at hl 1 rfl) ?_
  replace h := bd h
  obtain ⟨x5, q6, h⟩ := h
  refine fg_1_2 hx hb hts hown hK hP wd_157 q6 dX2_copyFrom_10 ?_
  replace h := bd h
  obtain ⟨Z7, q8, h⟩ := h
  refine fp_1_2 hx hb hts hown hK hP hD hS wd_157 q8 dX2_copyFrom_13 (fun H locs hz9 hP hD hS => ?_)
  refine lv_aload_n hx hb dX2_copyFrom_16 rfl (lv_at hl 0 rfl) ?_
  refine lv_aload_n hx hb dX2_copyFrom_17 rfl (lv_at hl 1 rfl) ?_
  replace h := bd h
  obtain ⟨x9, q10, h⟩ := h
  refine fg_1_3 hx hb hts hown hK hP wd_159 q10 dX2_copyFrom_18 ?_
  replace h := bd h
  obtain ⟨Z11, q12, h⟩ := h
  refine fp_1_3 hx hb hts hown hK hP hD hS wd_159 q12 dX2_copyFrom_21 (fun H locs hz9 hP hD hS => ?_)
  refine lv_aload_n hx hb dX2_copyFrom_24 rfl (lv_at hl 0 rfl) ?_
  refine lv_aload_n hx hb dX2_copyFrom_25 rfl (lv_at hl 1 rfl) ?_
  replace h := bd h
  obtain ⟨x13, q14, h⟩ := h
  refine fg_1_4 hx hb hts hown hK hP wd_161 q14 dX2_copyFrom_26 ?_
  replace h := bd h
  obtain ⟨Z15, q16, h⟩ := h
  refine fp_1_4 hx hb hts hown hK hP hD hS wd_161 q16 dX2_copyFrom_29 (fun H locs hz9 hP hD hS => ?_)
  refine lv_iconst (v := 0) hx hb dX2_copyFrom_32 (by decide) ?_
  refine lv_istore_n (lv' := [(2, .int 0), (0, .ref a0), (1, .ref a1)]) hx hb dX2_copyFrom_33 rfl hl (by decide) rfl (fun ls hl => ?_)
  have L34 : ∀ (y34_0 : Nat) (y34_1 : Nat) (fu : Nat) (S34_ : St) (y34_2 : Int32) (res : St), f_X2_copyFrom_L34 y34_0 y34_1 fu S34_ y34_2 = some res → ∀ (H : Heap) (locs : List Loc) (ls : Array Slot), SP D cy S34_ H → (∀ a, S34_ a ≠ none → (dm S s.heap.size) a) → va_S (dm S s.heap.size) s.heap H locs → lv_has ls 3 [(0, .ref y34_0), (1, .ref y34_1), (2, .int y34_2)] → (∀ (H : Heap) (locs : List Loc) (ls : Array Slot), SP D cy res H → (∀ a, res a ≠ none → (dm S s.heap.size) a) → va_S (dm S s.heap.size) s.heap H locs → lv_has ls 3 [] → W p l e rm_X2_copyFrom s m ([.ref a0, .ref a1] : List Value).toArray below meth c H locs 0 0 (MQ below (va_Qv (fun _ : Unit => True) (fun _ t => PoS D cy S1 (dm S s.heap.size) t) (dm S s.heap.size)) ([.ref a0, .ref a1] : List Value).toArray s 0 0 (dm S s.heap.size)) (F0 m 63 ls [])) → W p l e rm_X2_copyFrom s m ([.ref a0, .ref a1] : List Value).toArray below meth c H locs 0 0 (MQ below (va_Qv (fun _ : Unit => True) (fun _ t => PoS D cy S1 (dm S s.heap.size) t) (dm S s.heap.size)) ([.ref a0, .ref a1] : List Value).toArray s 0 0 (dm S s.heap.size)) (F0 m 34 ls []) := by
    intro y34_0 y34_1 fu
    induction fu with
    | zero =>
      intro S34_ y34_2 res h
      rw [f_X2_copyFrom_L34] at h
      cases h
    | succ fu ih =>
      intro S34_ y34_2 res h H locs ls hP hD hS hl hexit
      rw [f_X2_copyFrom_L34] at h
      refine lv_iload_n hx hb dX2_copyFrom_34 rfl (lv_at hl 2 rfl) ?_
      refine lv_aload_n hx hb dX2_copyFrom_35 rfl (lv_at hl 0 rfl) ?_
      replace h := bd h
      obtain ⟨x19, q20, h⟩ := h
      refine fg_1_1 hx hb hts hown hK hP wd_156 q20 dX2_copyFrom_36 ?_
      refine lv_icmp_ge (tgt := 63) hx hb dX2_copyFrom_39 (by decide) (fun c21 => ?_) (fun c21 => ?_)
      · replace h := ifp c21 h
        cases h
        exact hexit _ _ _ hP hD hS (lv_sub hl [] rfl)
      · replace h := ifn c21 h
        refine lv_aload_n hx hb dX2_copyFrom_42 rfl (lv_at hl 0 rfl) ?_
        replace h := bd h
        obtain ⟨x22, q23, h⟩ := h
        refine fg_1_0 hx hb hts hown hK hP wd_155 q23 dX2_copyFrom_43 ?_
        refine lv_iload_n hx hb dX2_copyFrom_46 rfl (lv_at hl 2 rfl) ?_
        replace h := bd h
        obtain ⟨x24, q25, h⟩ := h
        refine r_aR hx hb hK hP (t := 1) rfl q25 dX2_copyFrom_47 ?_
        refine lv_aload_n hx hb dX2_copyFrom_48 rfl (lv_at hl 1 rfl) ?_
        replace h := bd h
        obtain ⟨x26, q27, h⟩ := h
        refine fg_1_0 hx hb hts hown hK hP wd_155 q27 dX2_copyFrom_49 ?_
        refine lv_iload_n hx hb dX2_copyFrom_52 rfl (lv_at hl 2 rfl) ?_
        replace h := bd h
        obtain ⟨x28, q29, h⟩ := h
        refine r_aR hx hb hK hP (t := 1) rfl q29 dX2_copyFrom_53 ?_
        replace h := bd h
        obtain ⟨_, q30, h⟩ := h
        replace h := bd h
        obtain ⟨z32, q31, h⟩ := h
        refine c_X0_copyFrom ⟨hx, hb, hml, hown, hts⟩ hl.1 hK hP hD hA hS wd_594 ⟨(Nat.le_of_ble_eq_true rfl), (Nat.le_of_ble_eq_true rfl)⟩ q31 q30 (Nat.le_of_ble_eq_true rfl) dX2_copyFrom_54 ⟨(Nat.le_of_ble_eq_true rfl), (Nat.le_of_ble_eq_true rfl)⟩ (fun H locs hP hD hS => ?_)
        refine lv_iinc (v := (y34_2 + 1)) (lv' := [(2, .int (y34_2 + 1)), (0, .ref y34_0), (1, .ref y34_1)]) hx hb dX2_copyFrom_57 hl (k := 2) rfl rfl (by decide) rfl (fun ls hl => ?_)
        refine lv_goto (tgt := 34) hx hb dX2_copyFrom_60 (by decide) ?_
        exact ih z32 (y34_2 + 1) _ h _ _ _ hP hD hS (lv_sub hl [1, 2, 0] rfl) hexit
  replace h := bd h
  obtain ⟨z17, q33, h⟩ := h
  refine L34 a0 a1 FU Z15 0 z17 q33 _ _ _ hP hD hS (lv_sub hl [1, 2, 0] rfl) (fun H locs ls hP hD hS hl => ?_)
  cases h
  exact e_vm hx hb hlocks hr hP hD hS (Nat.le_of_ble_eq_true rfl) (Nat.le_of_ble_eq_true rfl) dX2_copyFrom_63
set_option maxRecDepth 100000 in
theorem c_X2_copyFrom {p : Program} {l : Launch} {e : Env} {R : Room} {s : State} {m : MethodId} {args : Array Value} {below : List Frame} {meth : Method} {c : Code} {H : Heap} {locs : List Loc} {cells slots : Nat} {Q : State → Prop} {cc : ByteArray} {pc index nL : Nat} {ls : Array Slot} {rest : List Value} {D : va_G} {cy : Nat → ClassId} {A0 : Nat → Prop} {S : St} {H0 : Heap} {own : String} {u : Unit} {a0 : Nat} {a1 : Nat} {S1 : St}  (hF : CallFix p m c cc nL s args ALLW own) (hsz : ls.size = nL) (hK : va_K D vwCl (tyL cy) s) (hP : SP D cy S H) (hD : ∀ a, S a ≠ none → A0 a) (hA : ∀ q, H0.size ≤ q → A0 q) (hS : va_S A0 H0 H locs) (hk : Cond.methodLink own index yX2_copyFrom ∈ ALLW) (hR : rm_X2_copyFrom.frames + 1 ≤ R.frames ∧ 8 + (3 + 11) + rm_X2_copyFrom.locals ≤ R.locals) (h : f_X2_copyFrom S a0 a1 = some S1) (hc : oO S a0 1 = some u) (hW : (rest.map fun v => v.category).sum ≤ 8) (hdg : decode cc pc = .ok (.invokevirtual index, 3)) (hf : cells + 0 ≤ R.cells ∧ slots + 0 ≤ R.slots)
    (kk : ∀ (H1 : Heap) (locs1 : List Loc), SP D cy S1 H1 → (∀ a, S1 a ≠ none → A0 a) → va_S A0 H0 H1 locs1 → W p l e R s m args below meth c H1 locs1 (cells + 0) (slots + 0) Q (F0 m (pc + 3) ls (rest))) : W p l e R s m args below meth c H locs cells slots Q (F0 m pc ls (.ref a1 :: .ref a0 :: rest)) := by
  exact k_vVm (As := [.ref a1]) hF hsz (m_X2_copyFrom l D cy H.size S a0 a1 S1 h) (cwV_of (n := 1) hF.2.2.2.2 hk wd_591 wd_592 wd_70 wd_593 rfl rfl (by decide +kernel) hR) rfl hK hP hD hA hS (ci := 1) hc rfl hW rfl hdg hf kk
/-- VowBlocks$Column.open(LVowBlocks$Row;)I -/
def f_X2_open (S : St) (a0 : Nat) (a1 : Nat) : Option (Int32 × St) :=
  (oO S a0 1).bind fun _ =>
  (f_X2_isFull S a0).bind fun x3 =>
  if x3 = 0 then
    (gR S a0 1 0).bind fun x5 =>
    (gI S a0 1 1).bind fun x7 =>
    (aR S x5 1 x7).bind fun x9 =>
    (gI S a0 1 2).bind fun x11 =>
    (oO S x9 0).bind fun _ =>
    (f_X0_begin S x9 a1 x11).bind fun z15 =>
    (gI z15 a0 1 1).bind fun x16 =>
    (pI z15 a0 1 1 (x16 + 1)).bind fun Z18 =>
    (gI Z18 a0 1 1).bind fun x20 =>
    some ((x20 - 1), Z18)
  else
    some ((-1), S)
abbrev rm_X2_open : Room := { frames := 5, cells := 0, slots := 0, locals := 114 }
set_option maxHeartbeats 4000000 in
set_option maxRecDepth 100000 in
theorem m_X2_open (l : Launch) (D : va_G) (cy : Nat → ClassId) (sz : Nat) (S : St) (a0 : Nat) (a1 : Nat) (r : Int32) (S1 : St) (h : f_X2_open S a0 a1 = some (r, S1)) : Met l yX2_open (wsA yX2_open cX2_open 2 (some .int)) rm_X2_open (va_Pc [.ref a0, .ref a1] (PN D cy S sz)) (va_Qi (fun r' (_ : Unit) => r' = r) (fun _ t => PoS D cy S1 (dm S sz) t) (dm S sz)) 0 0 (dm S sz) := by
  refine Met.ofW (cc := cX2_open) (maxL := 2) (ret := (some .int)) (by decide) rfl ?_
  intro p e s m args below meth c s₁ B hml hv
  obtain ⟨rfl, hsz, hP, hK⟩ := hv
  have hx := B.exec
  have hb := B.bytes
  have hr := B.returns
  have hts9 := atoms_spec (ws := wsA yX2_open cX2_open 2 (some .int)) B.pre
  have hts : ∀ w ∈ ALLW, w.before _ s = true := fun w h => hts9 w (List.mem_cons_of_mem _ h)
  have hown : s.vm.findClass RX2 = some m.cls := findClass_of_methodNamed B.named
  have hlocks := B.notSynchronized
  subst hsz
  have hD : ∀ a, S a ≠ none → dm S s.heap.size a := fun a h => Or.inl h
  have hA : ∀ q : Nat, s.heap.size ≤ q → dm S s.heap.size q := fun q h => Or.inr h
  have hS : va_S (dm S s.heap.size) s.heap s.heap [] := va_S.rf
  have hl := lv_entry [.ref a0, .ref a1] (n := 2) (Nat.le_of_ble_eq_true rfl)
  rw [lg_entry_eq]
  generalize (lg_sl [.ref a0, .ref a1] ++ List.replicate (2 - (lg_sl [.ref a0, .ref a1]).length) Slot.unset).toArray = ls at hl ⊢
  have hl : lv_has ls 2 [(0, .ref a0), (1, .ref a1)] := hl
  rw [f_X2_open] at h
  refine lv_aload_n hx hb dX2_open_0 rfl (lv_at hl 0 rfl) ?_
  replace h := bd h
  obtain ⟨_, q1, h⟩ := h
  replace h := bd h
  obtain ⟨x3, q2, h⟩ := h
  refine c_X2_isFull ⟨hx, hb, hml, hown, hts⟩ hl.1 hK hP hS wd_603 ⟨(Nat.le_of_ble_eq_true rfl), (Nat.le_of_ble_eq_true rfl)⟩ q2 q1 (Nat.le_of_ble_eq_true rfl) dX2_open_1 ⟨(Nat.le_of_ble_eq_true rfl), (Nat.le_of_ble_eq_true rfl)⟩ (fun H locs hP hS => ?_)
  refine lv_if_eq (tgt := 9) hx hb dX2_open_4 (by decide) (fun c4 => ?_) (fun c4 => ?_)
  · replace h := ifp c4 h
    refine lv_aload_n hx hb dX2_open_9 rfl (lv_at hl 0 rfl) ?_
    replace h := bd h
    obtain ⟨x5, q6, h⟩ := h
    refine fg_1_0 hx hb hts hown hK hP wd_155 q6 dX2_open_10 ?_
    refine lv_aload_n hx hb dX2_open_13 rfl (lv_at hl 0 rfl) ?_
    replace h := bd h
    obtain ⟨x7, q8, h⟩ := h
    refine fg_1_1 hx hb hts hown hK hP wd_156 q8 dX2_open_14 ?_
    replace h := bd h
    obtain ⟨x9, q10, h⟩ := h
    refine r_aR hx hb hK hP (t := 1) rfl q10 dX2_open_17 ?_
    refine lv_aload_n hx hb dX2_open_18 rfl (lv_at hl 1 rfl) ?_
    refine lv_aload_n hx hb dX2_open_19 rfl (lv_at hl 0 rfl) ?_
    replace h := bd h
    obtain ⟨x11, q12, h⟩ := h
    refine fg_1_2 hx hb hts hown hK hP wd_157 q12 dX2_open_20 ?_
    replace h := bd h
    obtain ⟨_, q13, h⟩ := h
    replace h := bd h
    obtain ⟨z15, q14, h⟩ := h
    refine c_X0_begin ⟨hx, hb, hml, hown, hts⟩ hl.1 hK hP hD hA hS wd_604 ⟨(Nat.le_of_ble_eq_true rfl), (Nat.le_of_ble_eq_true rfl)⟩ q14 q13 (Nat.le_of_ble_eq_true rfl) dX2_open_23 ⟨(Nat.le_of_ble_eq_true rfl), (Nat.le_of_ble_eq_true rfl)⟩ (fun H locs hP hD hS => ?_)
    refine lv_aload_n hx hb dX2_open_26 rfl (lv_at hl 0 rfl) ?_
    refine lv_dup hx hb dX2_open_27 rfl ?_
    replace h := bd h
    obtain ⟨x16, q17, h⟩ := h
    refine fg_1_1 hx hb hts hown hK hP wd_156 q17 dX2_open_28 ?_
    refine lv_iconst (v := 1) hx hb dX2_open_31 (by decide) ?_
    refine lv_iadd hx hb dX2_open_32 ?_
    replace h := bd h
    obtain ⟨Z18, q19, h⟩ := h
    refine fp_1_1 hx hb hts hown hK hP hD hS wd_156 q19 dX2_open_33 (fun H locs hz9 hP hD hS => ?_)
    refine lv_aload_n hx hb dX2_open_36 rfl (lv_at hl 0 rfl) ?_
    replace h := bd h
    obtain ⟨x20, q21, h⟩ := h
    refine fg_1_1 hx hb hts hown hK hP wd_156 q21 dX2_open_37 ?_
    refine lv_iconst (v := 1) hx hb dX2_open_40 (by decide) ?_
    refine lv_isub hx hb dX2_open_41 ?_
    cases h
    exact e_im hx hb hlocks hr hP hD hS (Nat.le_of_ble_eq_true rfl) (Nat.le_of_ble_eq_true rfl) dX2_open_42
  · replace h := ifn c4 h
    refine lv_iconst (v := (-1)) hx hb dX2_open_7 (by decide) ?_
    cases h
    exact e_im hx hb hlocks hr hP hD hS (Nat.le_of_ble_eq_true rfl) (Nat.le_of_ble_eq_true rfl) dX2_open_8
set_option maxRecDepth 100000 in
theorem c_X2_open {p : Program} {l : Launch} {e : Env} {R : Room} {s : State} {m : MethodId} {args : Array Value} {below : List Frame} {meth : Method} {c : Code} {H : Heap} {locs : List Loc} {cells slots : Nat} {Q : State → Prop} {cc : ByteArray} {pc index nL : Nat} {ls : Array Slot} {rest : List Value} {D : va_G} {cy : Nat → ClassId} {A0 : Nat → Prop} {S : St} {H0 : Heap} {own : String} {u : Unit} {a0 : Nat} {a1 : Nat} {r : Int32} {S1 : St}  (hF : CallFix p m c cc nL s args ALLW own) (hsz : ls.size = nL) (hK : va_K D vwCl (tyL cy) s) (hP : SP D cy S H) (hD : ∀ a, S a ≠ none → A0 a) (hA : ∀ q, H0.size ≤ q → A0 q) (hS : va_S A0 H0 H locs) (hk : Cond.methodLink own index yX2_open ∈ ALLW) (hR : rm_X2_open.frames + 1 ≤ R.frames ∧ 8 + (2 + 11) + rm_X2_open.locals ≤ R.locals) (h : f_X2_open S a0 a1 = some (r, S1)) (hc : oO S a0 1 = some u) (hW : (rest.map fun v => v.category).sum ≤ 8) (hdg : decode cc pc = .ok (.invokevirtual index, 3)) (hf : cells + 0 ≤ R.cells ∧ slots + 0 ≤ R.slots)
    (kk : ∀ (H1 : Heap) (locs1 : List Loc), SP D cy S1 H1 → (∀ a, S1 a ≠ none → A0 a) → va_S A0 H0 H1 locs1 → W p l e R s m args below meth c H1 locs1 (cells + 0) (slots + 0) Q (F0 m (pc + 3) ls (.int r :: rest))) : W p l e R s m args below meth c H locs cells slots Q (F0 m pc ls (.ref a1 :: .ref a0 :: rest)) := by
  exact k_iVm (As := [.ref a1]) hF hsz (m_X2_open l D cy H.size S a0 a1 r S1 h) (cwV_of (n := 1) hF.2.2.2.2 hk wd_600 wd_601 wd_70 wd_602 rfl rfl (by decide +kernel) hR) rfl hK hP hD hA hS (ci := 1) hc rfl hW rfl hdg hf kk
/-- VowBlocks$Column.has(I)Z -/
def f_X2_has (S : St) (a0 : Nat) (a1 : Int32) : Option (Int32) :=
  (
    if a1 < 0 then
      some 0
    else
      (gI S a0 1 1).bind fun x3 =>
      if x3 ≤ a1 then
        some 0
      else
        some 1
  : Option (Int32)).bind fun t1 =>
  (zz t1).bind fun _ =>
  some t1
abbrev rm_X2_has : Room := { frames := 0, cells := 0, slots := 0, locals := 0 }
set_option maxHeartbeats 4000000 in
set_option maxRecDepth 100000 in
theorem m_X2_has (l : Launch) (D : va_G) (cy : Nat → ClassId) (S : St) (a0 : Nat) (a1 : Int32) (r : Int32) (h : f_X2_has S a0 a1 = some r) : Met l yX2_has (wsA yX2_has cX2_has 2 (some .boolean)) rm_X2_has (va_Pc [.ref a0, .int a1] (PS D cy S)) (va_Qi (fun r' (_ : Unit) => r' = r) (fun _ _ => True) noA) 0 0 noA := by
  refine Met.ofW (cc := cX2_has) (maxL := 2) (ret := (some .boolean)) (by decide) rfl ?_
  intro p e s m args below meth c s₁ B hml hv
  obtain ⟨rfl, hP, hK⟩ := hv
  have hx := B.exec
  have hb := B.bytes
  have hr := B.returns
  have hts9 := atoms_spec (ws := wsA yX2_has cX2_has 2 (some .boolean)) B.pre
  have hts : ∀ w ∈ ALLW, w.before _ s = true := fun w h => hts9 w (List.mem_cons_of_mem _ h)
  have hown : s.vm.findClass RX2 = some m.cls := findClass_of_methodNamed B.named
  have hlocks := B.notSynchronized
  have hS : va_S noA s.heap s.heap [] := va_S.rf
  have hl := lv_entry [.ref a0, .int a1] (n := 2) (Nat.le_of_ble_eq_true rfl)
  rw [lg_entry_eq]
  generalize (lg_sl [.ref a0, .int a1] ++ List.replicate (2 - (lg_sl [.ref a0, .int a1]).length) Slot.unset).toArray = ls at hl ⊢
  have hl : lv_has ls 2 [(0, .ref a0), (1, .int a1)] := hl
  rw [f_X2_has] at h
  refine lv_iload_n hx hb dX2_has_0 rfl (lv_at hl 1 rfl) ?_
  replace h := bd h
  obtain ⟨t1, ht, h⟩ := h
  have K1 : ∀ (H : Heap) (locs : List Loc) (ls : Array Slot), SP D cy S H → va_S noA s.heap H locs → lv_has ls 2 [] → W p l e rm_X2_has s m ([.ref a0, .int a1] : List Value).toArray below meth c H locs 0 0 (MQ below (va_Qi (fun r' (_ : Unit) => r' = r) (fun _ _ => True) noA) ([.ref a0, .int a1] : List Value).toArray s 0 0 noA) (F0 m 17 ls [.int t1]) := by
    intro H locs ls hP hS hl
    replace h := bd h
    obtain ⟨_, q6, h⟩ := h
    cases h
    exact e_zp hx hb hlocks (zz_spec q6) hr hS (Nat.le_of_ble_eq_true rfl) (Nat.le_of_ble_eq_true rfl) dX2_has_17
  replace h := ht
  refine lv_if_lt (tgt := 16) hx hb dX2_has_1 (by decide) (fun c2 => ?_) (fun c2 => ?_)
  · replace h := ifp c2 h
    refine lv_iconst (v := 0) hx hb dX2_has_16 (by decide) ?_
    cases h
    exact K1 _ _ _ hP hS (lv_sub hl [] rfl)
  · replace h := ifn c2 h
    refine lv_iload_n hx hb dX2_has_4 rfl (lv_at hl 1 rfl) ?_
    refine lv_aload_n hx hb dX2_has_5 rfl (lv_at hl 0 rfl) ?_
    replace h := bd h
    obtain ⟨x3, q4, h⟩ := h
    refine fg_1_1 hx hb hts hown hK hP wd_156 q4 dX2_has_6 ?_
    refine lv_icmp_ge (tgt := 16) hx hb dX2_has_9 (by decide) (fun c5 => ?_) (fun c5 => ?_)
    · replace h := ifp c5 h
      refine lv_iconst (v := 0) hx hb dX2_has_16 (by decide) ?_
      cases h
      exact K1 _ _ _ hP hS (lv_sub hl [] rfl)
    · replace h := ifn c5 h
      refine lv_iconst (v := 1) hx hb dX2_has_12 (by decide) ?_
      refine lv_goto (tgt := 17) hx hb dX2_has_13 (by decide) ?_
      cases h
      exact K1 _ _ _ hP hS (lv_sub hl [] rfl)
set_option maxRecDepth 100000 in
theorem c_X2_has {p : Program} {l : Launch} {e : Env} {R : Room} {s : State} {m : MethodId} {args : Array Value} {below : List Frame} {meth : Method} {c : Code} {H : Heap} {locs : List Loc} {cells slots : Nat} {Q : State → Prop} {cc : ByteArray} {pc index nL : Nat} {ls : Array Slot} {rest : List Value} {D : va_G} {cy : Nat → ClassId} {A0 : Nat → Prop} {S : St} {H0 : Heap} {own : String} {u : Unit} {a0 : Nat} {a1 : Int32} {r : Int32}  (hF : CallFix p m c cc nL s args ALLW own) (hsz : ls.size = nL) (hK : va_K D vwCl (tyL cy) s) (hP : SP D cy S H) (hS : va_S A0 H0 H locs) (hk : Cond.methodLink own index yX2_has ∈ ALLW) (hR : rm_X2_has.frames + 1 ≤ R.frames ∧ 8 + (2 + 11) + rm_X2_has.locals ≤ R.locals) (h : f_X2_has S a0 a1 = some r) (hc : oO S a0 1 = some u) (hW : (rest.map fun v => v.category).sum ≤ 8) (hdg : decode cc pc = .ok (.invokevirtual index, 3)) (hf : cells + 0 ≤ R.cells ∧ slots + 0 ≤ R.slots)
    (kk : ∀ (H1 : Heap) (locs1 : List Loc), SP D cy S H1 → va_S A0 H0 H1 locs1 → W p l e R s m args below meth c H1 locs1 (cells + 0) (slots + 0) Q (F0 m (pc + 3) ls (.int r :: rest))) : W p l e R s m args below meth c H locs cells slots Q (F0 m pc ls (.int a1 :: .ref a0 :: rest)) := by
  exact k_iVp (As := [.int a1]) hF hsz (m_X2_has l D cy S a0 a1 r h) (cwV_of (n := 1) hF.2.2.2.2 hk wd_276 wd_277 wd_70 wd_278 rfl rfl (by decide +kernel) hR) rfl hK hP hS (ci := 1) hc rfl hW rfl hdg hf kk
/-- VowBlocks$Column.at(I)LVowBlocks$Block; -/
def f_X2_at (S : St) (a0 : Nat) (a1 : Int32) : Option (Nat) :=
  (gR S a0 1 0).bind fun x1 =>
  (oO S a0 1).bind fun _ =>
  (f_X2_has S a0 a1).bind fun x5 =>
  (
    if x5 = 0 then
      some 0
    else
      some a1
  : Option (Int32)).bind fun t6 =>
  (aR S x1 1 t6).bind fun x8 =>
  some x8
abbrev rm_X2_at : Room := { frames := 1, cells := 0, slots := 0, locals := 21 }
set_option maxHeartbeats 4000000 in
set_option maxRecDepth 100000 in
theorem m_X2_at (l : Launch) (D : va_G) (cy : Nat → ClassId) (S : St) (a0 : Nat) (a1 : Int32) (r : Nat) (h : f_X2_at S a0 a1 = some r) : Met l yX2_at (wsA yX2_at cX2_at 2 (some (.object "VowBlocks$Block"))) rm_X2_at (va_Pc [.ref a0, .int a1] (PS D cy S)) (va_Qq (fun r' (_ : Unit) => r' = some r) (fun _ _ => True) noA) 0 0 noA := by
  refine Met.ofW (cc := cX2_at) (maxL := 2) (ret := (some (.object "VowBlocks$Block"))) (by decide) rfl ?_
  intro p e s m args below meth c s₁ B hml hv
  obtain ⟨rfl, hP, hK⟩ := hv
  have hx := B.exec
  have hb := B.bytes
  have hr := B.returns
  have hts9 := atoms_spec (ws := wsA yX2_at cX2_at 2 (some (.object "VowBlocks$Block"))) B.pre
  have hts : ∀ w ∈ ALLW, w.before _ s = true := fun w h => hts9 w (List.mem_cons_of_mem _ h)
  have hown : s.vm.findClass RX2 = some m.cls := findClass_of_methodNamed B.named
  have hlocks := B.notSynchronized
  have hS : va_S noA s.heap s.heap [] := va_S.rf
  have hl := lv_entry [.ref a0, .int a1] (n := 2) (Nat.le_of_ble_eq_true rfl)
  rw [lg_entry_eq]
  generalize (lg_sl [.ref a0, .int a1] ++ List.replicate (2 - (lg_sl [.ref a0, .int a1]).length) Slot.unset).toArray = ls at hl ⊢
  have hl : lv_has ls 2 [(0, .ref a0), (1, .int a1)] := hl
  rw [f_X2_at] at h
  refine lv_aload_n hx hb dX2_at_0 rfl (lv_at hl 0 rfl) ?_
  replace h := bd h
  obtain ⟨x1, q2, h⟩ := h
  refine fg_1_0 hx hb hts hown hK hP wd_155 q2 dX2_at_1 ?_
  refine lv_aload_n hx hb dX2_at_4 rfl (lv_at hl 0 rfl) ?_
  refine lv_iload_n hx hb dX2_at_5 rfl (lv_at hl 1 rfl) ?_
  replace h := bd h
  obtain ⟨_, q3, h⟩ := h
  replace h := bd h
  obtain ⟨x5, q4, h⟩ := h
  refine c_X2_has ⟨hx, hb, hml, hown, hts⟩ hl.1 hK hP hS wd_275 ⟨(Nat.le_of_ble_eq_true rfl), (Nat.le_of_ble_eq_true rfl)⟩ q4 q3 (Nat.le_of_ble_eq_true rfl) dX2_at_6 ⟨(Nat.le_of_ble_eq_true rfl), (Nat.le_of_ble_eq_true rfl)⟩ (fun H locs hP hS => ?_)
  replace h := bd h
  obtain ⟨t6, ht, h⟩ := h
  have K6 : ∀ (H : Heap) (locs : List Loc) (ls : Array Slot), SP D cy S H → va_S noA s.heap H locs → lv_has ls 2 [] → W p l e rm_X2_at s m ([.ref a0, .int a1] : List Value).toArray below meth c H locs 0 0 (MQ below (va_Qq (fun r' (_ : Unit) => r' = some r) (fun _ _ => True) noA) ([.ref a0, .int a1] : List Value).toArray s 0 0 noA) (F0 m 17 ls [.int t6, .ref x1]) := by
    intro H locs ls hP hS hl
    replace h := bd h
    obtain ⟨x8, q9, h⟩ := h
    refine r_aR hx hb hK hP (t := 1) rfl q9 dX2_at_17 ?_
    cases h
    exact e_rp hx hb hlocks (Or.inl ⟨_, rfl⟩) hr hS (Nat.le_of_ble_eq_true rfl) (Nat.le_of_ble_eq_true rfl) dX2_at_18
  replace h := ht
  refine lv_if_eq (tgt := 16) hx hb dX2_at_9 (by decide) (fun c7 => ?_) (fun c7 => ?_)
  · replace h := ifp c7 h
    refine lv_iconst (v := 0) hx hb dX2_at_16 (by decide) ?_
    cases h
    exact K6 _ _ _ hP hS (lv_sub hl [] rfl)
  · replace h := ifn c7 h
    refine lv_iload_n hx hb dX2_at_12 rfl (lv_at hl 1 rfl) ?_
    refine lv_goto (tgt := 17) hx hb dX2_at_13 (by decide) ?_
    cases h
    exact K6 _ _ _ hP hS (lv_sub hl [] rfl)
set_option maxRecDepth 100000 in
theorem c_X2_at {p : Program} {l : Launch} {e : Env} {R : Room} {s : State} {m : MethodId} {args : Array Value} {below : List Frame} {meth : Method} {c : Code} {H : Heap} {locs : List Loc} {cells slots : Nat} {Q : State → Prop} {cc : ByteArray} {pc index nL : Nat} {ls : Array Slot} {rest : List Value} {D : va_G} {cy : Nat → ClassId} {A0 : Nat → Prop} {S : St} {H0 : Heap} {own : String} {u : Unit} {a0 : Nat} {a1 : Int32} {r : Nat}  (hF : CallFix p m c cc nL s args ALLW own) (hsz : ls.size = nL) (hK : va_K D vwCl (tyL cy) s) (hP : SP D cy S H) (hS : va_S A0 H0 H locs) (hk : Cond.methodLink own index yX2_at ∈ ALLW) (hR : rm_X2_at.frames + 1 ≤ R.frames ∧ 8 + (2 + 11) + rm_X2_at.locals ≤ R.locals) (h : f_X2_at S a0 a1 = some r) (hc : oO S a0 1 = some u) (hW : (rest.map fun v => v.category).sum ≤ 8) (hdg : decode cc pc = .ok (.invokevirtual index, 3)) (hf : cells + 0 ≤ R.cells ∧ slots + 0 ≤ R.slots)
    (kk : ∀ (H1 : Heap) (locs1 : List Loc), SP D cy S H1 → va_S A0 H0 H1 locs1 → W p l e R s m args below meth c H1 locs1 (cells + 0) (slots + 0) Q (F0 m (pc + 3) ls (.ref r :: rest))) : W p l e R s m args below meth c H locs cells slots Q (F0 m pc ls (.int a1 :: .ref a0 :: rest)) := by
  exact k_rVp (As := [.int a1]) hF hsz (m_X2_at l D cy S a0 a1 r h) (cwV_of (n := 1) hF.2.2.2.2 hk wd_272 wd_273 wd_70 wd_274 rfl rfl (by decide +kernel) hR) rfl hK hP hS (ci := 1) hc rfl hW rfl hdg hf kk
/-- VowBlocks$Column.drop(I)V -/
def f_X2_drop_L18 (y18_0 : Nat) (y18_2 : Nat) : Nat → St → Int32 →  Option (St)
  | 0, _, _ => none
  | fu + 1, S18_, y18_3 =>
    (gI S18_ y18_0 1 1).bind fun x11 =>
    if x11 ≤ (y18_3 + 1) then
      some S18_
    else
      (gR S18_ y18_0 1 0).bind fun x14 =>
      (gR S18_ y18_0 1 0).bind fun x16 =>
      (aR S18_ x16 1 (y18_3 + 1)).bind fun x18 =>
      (sR S18_ x14 1 0 y18_3 x18).bind fun Z20 =>
      f_X2_drop_L18 y18_0 y18_2 fu Z20 (y18_3 + 1)
def f_X2_drop (S : St) (a0 : Nat) (a1 : Int32) : Option (St) :=
  (oO S a0 1).bind fun _ =>
  (f_X2_has S a0 a1).bind fun x3 =>
  if x3 = 0 then
    some S
  else
    (gR S a0 1 0).bind fun x5 =>
    (aR S x5 1 a1).bind fun x7 =>
    (f_X2_drop_L18 a0 x7 FU S a1).bind fun z9 =>
    (gI z9 a0 1 1).bind fun x23 =>
    (pI z9 a0 1 1 (x23 - 1)).bind fun Z25 =>
    (gR Z25 a0 1 0).bind fun x27 =>
    (gI Z25 a0 1 1).bind fun x29 =>
    (sR Z25 x27 1 0 x29 x7).bind fun Z31 =>
    some Z31
abbrev rm_X2_drop : Room := { frames := 1, cells := 0, slots := 0, locals := 21 }
set_option maxHeartbeats 4000000 in
set_option maxRecDepth 100000 in
theorem m_X2_drop (l : Launch) (D : va_G) (cy : Nat → ClassId) (sz : Nat) (S : St) (a0 : Nat) (a1 : Int32) (S1 : St) (h : f_X2_drop S a0 a1 = some S1) : Met l yX2_drop (wsA yX2_drop cX2_drop 4 none) rm_X2_drop (va_Pc [.ref a0, .int a1] (PN D cy S sz)) (va_Qv (fun _ : Unit => True) (fun _ t => PoS D cy S1 (dm S sz) t) (dm S sz)) 0 0 (dm S sz) := by
  refine Met.ofW (cc := cX2_drop) (maxL := 4) (ret := none) (by decide) rfl ?_
  intro p e s m args below meth c s₁ B hml hv
  obtain ⟨rfl, hsz, hP, hK⟩ := hv
  have hx := B.exec
  have hb := B.bytes
  have hr := B.returns
  have hts9 := atoms_spec (ws := wsA yX2_drop cX2_drop 4 none) B.pre
  have hts : ∀ w ∈ ALLW, w.before _ s = true := fun w h => hts9 w (List.mem_cons_of_mem _ h)
  have hown : s.vm.findClass RX2 = some m.cls := findClass_of_methodNamed B.named
  have hlocks := B.notSynchronized
  subst hsz
  have hD : ∀ a, S a ≠ none → dm S s.heap.size a := fun a h => Or.inl h
  have hA : ∀ q : Nat, s.heap.size ≤ q → dm S s.heap.size q := fun q h => Or.inr h
  have hS : va_S (dm S s.heap.size) s.heap s.heap [] := va_S.rf
  have hl := lv_entry [.ref a0, .int a1] (n := 4) (Nat.le_of_ble_eq_true rfl)
  rw [lg_entry_eq]
  generalize (lg_sl [.ref a0, .int a1] ++ List.replicate (4 - (lg_sl [.ref a0, .int a1]).length) Slot.unset).toArray = ls at hl ⊢
  have hl : lv_has ls 4 [(0, .ref a0), (1, .int a1)] := hl
  rw [f_X2_drop] at h
  refine lv_aload_n hx hb dX2_drop_0 rfl (lv_at hl 0 rfl) ?_
  refine lv_iload_n hx hb dX2_drop_1 rfl (lv_at hl 1 rfl) ?_
  replace h := bd h
  obtain ⟨_, q1, h⟩ := h
  replace h := bd h
  obtain ⟨x3, q2, h⟩ := h
  refine c_X2_has ⟨hx, hb, hml, hown, hts⟩ hl.1 hK hP hS wd_275 ⟨(Nat.le_of_ble_eq_true rfl), (Nat.le_of_ble_eq_true rfl)⟩ q2 q1 (Nat.le_of_ble_eq_true rfl) dX2_drop_2 ⟨(Nat.le_of_ble_eq_true rfl), (Nat.le_of_ble_eq_true rfl)⟩ (fun H locs hP hS => ?_)
  refine lv_if_ne (tgt := 9) hx hb dX2_drop_5 (by decide) (fun c4 => ?_) (fun c4 => ?_)
  · replace h := ifn c4 h
    refine lv_aload_n hx hb dX2_drop_9 rfl (lv_at hl 0 rfl) ?_
    replace h := bd h
    obtain ⟨x5, q6, h⟩ := h
    refine fg_1_0 hx hb hts hown hK hP wd_155 q6 dX2_drop_10 ?_
    refine lv_iload_n hx hb dX2_drop_13 rfl (lv_at hl 1 rfl) ?_
    replace h := bd h
    obtain ⟨x7, q8, h⟩ := h
    refine r_aR hx hb hK hP (t := 1) rfl q8 dX2_drop_14 ?_
    refine lv_astore_n (lv' := [(2, .ref x7), (0, .ref a0), (1, .int a1)]) hx hb dX2_drop_15 rfl hl (by decide) rfl (fun ls hl => ?_)
    refine lv_iload_n hx hb dX2_drop_16 rfl (lv_at hl 2 rfl) ?_
    refine lv_istore_n (lv' := [(3, .int a1), (2, .ref x7), (0, .ref a0), (1, .int a1)]) hx hb dX2_drop_17 rfl hl (by decide) rfl (fun ls hl => ?_)
    have L18 : ∀ (y18_0 : Nat) (y18_2 : Nat) (fu : Nat) (S18_ : St) (y18_3 : Int32) (res : St), f_X2_drop_L18 y18_0 y18_2 fu S18_ y18_3 = some res → ∀ (H : Heap) (locs : List Loc) (ls : Array Slot), SP D cy S18_ H → (∀ a, S18_ a ≠ none → (dm S s.heap.size) a) → va_S (dm S s.heap.size) s.heap H locs → lv_has ls 4 [(0, .ref y18_0), (2, .ref y18_2), (3, .int y18_3)] → (∀ (H : Heap) (locs : List Loc) (ls : Array Slot), SP D cy res H → (∀ a, res a ≠ none → (dm S s.heap.size) a) → va_S (dm S s.heap.size) s.heap H locs → lv_has ls 4 [(0, .ref y18_0), (2, .ref y18_2)] → W p l e rm_X2_drop s m ([.ref a0, .int a1] : List Value).toArray below meth c H locs 0 0 (MQ below (va_Qv (fun _ : Unit => True) (fun _ t => PoS D cy S1 (dm S s.heap.size) t) (dm S s.heap.size)) ([.ref a0, .int a1] : List Value).toArray s 0 0 (dm S s.heap.size)) (F0 m 48 ls [])) → W p l e rm_X2_drop s m ([.ref a0, .int a1] : List Value).toArray below meth c H locs 0 0 (MQ below (va_Qv (fun _ : Unit => True) (fun _ t => PoS D cy S1 (dm S s.heap.size) t) (dm S s.heap.size)) ([.ref a0, .int a1] : List Value).toArray s 0 0 (dm S s.heap.size)) (F0 m 18 ls []) := by
      intro y18_0 y18_2 fu
      induction fu with
      | zero =>
        intro S18_ y18_3 res h
        rw [f_X2_drop_L18] at h
        cases h
      | succ fu ih =>
        intro S18_ y18_3 res h H locs ls hP hD hS hl hexit
        rw [f_X2_drop_L18] at h
        refine lv_iload_n hx hb dX2_drop_18 rfl (lv_at hl 2 rfl) ?_
        refine lv_iconst (v := 1) hx hb dX2_drop_19 (by decide) ?_
        refine lv_iadd hx hb dX2_drop_20 ?_
        refine lv_aload_n hx hb dX2_drop_21 rfl (lv_at hl 0 rfl) ?_
        replace h := bd h
        obtain ⟨x11, q12, h⟩ := h
        refine fg_1_1 hx hb hts hown hK hP wd_156 q12 dX2_drop_22 ?_
        refine lv_icmp_ge (tgt := 48) hx hb dX2_drop_25 (by decide) (fun c13 => ?_) (fun c13 => ?_)
        · replace h := ifp c13 h
          cases h
          exact hexit _ _ _ hP hD hS (lv_sub hl [0, 1] rfl)
        · replace h := ifn c13 h
          refine lv_aload_n hx hb dX2_drop_28 rfl (lv_at hl 0 rfl) ?_
          replace h := bd h
          obtain ⟨x14, q15, h⟩ := h
          refine fg_1_0 hx hb hts hown hK hP wd_155 q15 dX2_drop_29 ?_
          refine lv_iload_n hx hb dX2_drop_32 rfl (lv_at hl 2 rfl) ?_
          refine lv_aload_n hx hb dX2_drop_33 rfl (lv_at hl 0 rfl) ?_
          replace h := bd h
          obtain ⟨x16, q17, h⟩ := h
          refine fg_1_0 hx hb hts hown hK hP wd_155 q17 dX2_drop_34 ?_
          refine lv_iload_n hx hb dX2_drop_37 rfl (lv_at hl 2 rfl) ?_
          refine lv_iconst (v := 1) hx hb dX2_drop_38 (by decide) ?_
          refine lv_iadd hx hb dX2_drop_39 ?_
          replace h := bd h
          obtain ⟨x18, q19, h⟩ := h
          refine r_aR hx hb hK hP (t := 1) rfl q19 dX2_drop_40 ?_
          replace h := bd h
          obtain ⟨Z20, q21, h⟩ := h
          refine r_sR hx hb hK hP hD hS (t := 1) rfl rfl q21 dX2_drop_41 (fun H locs hz9 hP hD hS => ?_)
          refine lv_iinc (v := (y18_3 + 1)) (lv' := [(3, .int (y18_3 + 1)), (0, .ref y18_0), (2, .ref y18_2)]) hx hb dX2_drop_42 hl (k := 2) rfl rfl (by decide) rfl (fun ls hl => ?_)
          refine lv_goto (tgt := 18) hx hb dX2_drop_45 (by decide) ?_
          exact ih Z20 (y18_3 + 1) _ h _ _ _ hP hD hS (lv_sub hl [1, 2, 0] rfl) hexit
    replace h := bd h
    obtain ⟨z9, q22, h⟩ := h
    refine L18 a0 x7 FU S a1 z9 q22 _ _ _ hP hD hS (lv_sub hl [2, 1, 0] rfl) (fun H locs ls hP hD hS hl => ?_)
    refine lv_aload_n hx hb dX2_drop_48 rfl (lv_at hl 0 rfl) ?_
    refine lv_dup hx hb dX2_drop_49 rfl ?_
    replace h := bd h
    obtain ⟨x23, q24, h⟩ := h
    refine fg_1_1 hx hb hts hown hK hP wd_156 q24 dX2_drop_50 ?_
    refine lv_iconst (v := 1) hx hb dX2_drop_53 (by decide) ?_
    refine lv_isub hx hb dX2_drop_54 ?_
    replace h := bd h
    obtain ⟨Z25, q26, h⟩ := h
    refine fp_1_1 hx hb hts hown hK hP hD hS wd_156 q26 dX2_drop_55 (fun H locs hz9 hP hD hS => ?_)
    refine lv_aload_n hx hb dX2_drop_58 rfl (lv_at hl 0 rfl) ?_
    replace h := bd h
    obtain ⟨x27, q28, h⟩ := h
    refine fg_1_0 hx hb hts hown hK hP wd_155 q28 dX2_drop_59 ?_
    refine lv_aload_n hx hb dX2_drop_62 rfl (lv_at hl 0 rfl) ?_
    replace h := bd h
    obtain ⟨x29, q30, h⟩ := h
    refine fg_1_1 hx hb hts hown hK hP wd_156 q30 dX2_drop_63 ?_
    refine lv_aload_n hx hb dX2_drop_66 rfl (lv_at hl 1 rfl) ?_
    replace h := bd h
    obtain ⟨Z31, q32, h⟩ := h
    refine r_sR hx hb hK hP hD hS (t := 1) rfl rfl q32 dX2_drop_67 (fun H locs hz9 hP hD hS => ?_)
    cases h
    exact e_vm hx hb hlocks hr hP hD hS (Nat.le_of_ble_eq_true rfl) (Nat.le_of_ble_eq_true rfl) dX2_drop_68
  · replace h := ifp c4 h
    cases h
    exact e_vm hx hb hlocks hr hP hD hS (Nat.le_of_ble_eq_true rfl) (Nat.le_of_ble_eq_true rfl) dX2_drop_8
set_option maxRecDepth 100000 in
theorem c_X2_drop {p : Program} {l : Launch} {e : Env} {R : Room} {s : State} {m : MethodId} {args : Array Value} {below : List Frame} {meth : Method} {c : Code} {H : Heap} {locs : List Loc} {cells slots : Nat} {Q : State → Prop} {cc : ByteArray} {pc index nL : Nat} {ls : Array Slot} {rest : List Value} {D : va_G} {cy : Nat → ClassId} {A0 : Nat → Prop} {S : St} {H0 : Heap} {own : String} {u : Unit} {a0 : Nat} {a1 : Int32} {S1 : St}  (hF : CallFix p m c cc nL s args ALLW own) (hsz : ls.size = nL) (hK : va_K D vwCl (tyL cy) s) (hP : SP D cy S H) (hD : ∀ a, S a ≠ none → A0 a) (hA : ∀ q, H0.size ≤ q → A0 q) (hS : va_S A0 H0 H locs) (hk : Cond.methodLink own index yX2_drop ∈ ALLW) (hR : rm_X2_drop.frames + 1 ≤ R.frames ∧ 8 + (4 + 11) + rm_X2_drop.locals ≤ R.locals) (h : f_X2_drop S a0 a1 = some S1) (hc : oO S a0 1 = some u) (hW : (rest.map fun v => v.category).sum ≤ 8) (hdg : decode cc pc = .ok (.invokevirtual index, 3)) (hf : cells + 0 ≤ R.cells ∧ slots + 0 ≤ R.slots)
    (kk : ∀ (H1 : Heap) (locs1 : List Loc), SP D cy S1 H1 → (∀ a, S1 a ≠ none → A0 a) → va_S A0 H0 H1 locs1 → W p l e R s m args below meth c H1 locs1 (cells + 0) (slots + 0) Q (F0 m (pc + 3) ls (rest))) : W p l e R s m args below meth c H locs cells slots Q (F0 m pc ls (.int a1 :: .ref a0 :: rest)) := by
  exact k_vVm (As := [.int a1]) hF hsz (m_X2_drop l D cy H.size S a0 a1 S1 h) (cwV_of (n := 1) hF.2.2.2.2 hk wd_711 wd_712 wd_70 wd_713 rfl rfl (by decide +kernel) hR) rfl hK hP hD hA hS (ci := 1) hc rfl hW rfl hdg hf kk
/-- VowBlocks$Column.liveDay()I -/
def f_X2_liveDay_L14 (y14_0 : Nat) : Nat → St → Int32 → Int32 →  Option (Int32 × St)
  | 0, _, _, _ => none
  | fu + 1, S14_, y14_1, y14_2 =>
    (gI S14_ y14_0 1 1).bind fun x7 =>
    if x7 ≤ y14_2 then
      some (y14_1, S14_)
    else
      (gR S14_ y14_0 1 0).bind fun x10 =>
      (aR S14_ x10 1 y14_2).bind fun x12 =>
      (gI S14_ y14_0 1 2).bind fun x14 =>
      (gI S14_ y14_0 1 3).bind fun x16 =>
      (oO S14_ x12 0).bind fun _ =>
      (f_X0_liveDay S14_ x12 x14 x16).bind fun z20 =>
      f_X2_liveDay_L14 y14_0 fu z20.2 (y14_1 + z20.1) (y14_2 + 1)
def f_X2_liveDay (S : St) (a0 : Nat) : Option (Int32 × St) :=
  (gI S a0 1 2).bind fun x1 =>
  (pI S a0 1 2 (x1 + 1)).bind fun Z3 =>
  (f_X2_liveDay_L14 a0 FU Z3 0 0).bind fun z5 =>
  some (z5.1, z5.2)
abbrev rm_X2_liveDay : Room := { frames := 5, cells := 0, slots := 0, locals := 115 }
set_option maxHeartbeats 4000000 in
set_option maxRecDepth 100000 in
theorem m_X2_liveDay (l : Launch) (D : va_G) (cy : Nat → ClassId) (sz : Nat) (S : St) (a0 : Nat) (r : Int32) (S1 : St) (h : f_X2_liveDay S a0 = some (r, S1)) : Met l yX2_liveDay (wsA yX2_liveDay cX2_liveDay 3 (some .int)) rm_X2_liveDay (va_Pc [.ref a0] (PN D cy S sz)) (va_Qi (fun r' (_ : Unit) => r' = r) (fun _ t => PoS D cy S1 (dm S sz) t) (dm S sz)) 0 0 (dm S sz) := by
  refine Met.ofW (cc := cX2_liveDay) (maxL := 3) (ret := (some .int)) (by decide) rfl ?_
  intro p e s m args below meth c s₁ B hml hv
  obtain ⟨rfl, hsz, hP, hK⟩ := hv
  have hx := B.exec
  have hb := B.bytes
  have hr := B.returns
  have hts9 := atoms_spec (ws := wsA yX2_liveDay cX2_liveDay 3 (some .int)) B.pre
  have hts : ∀ w ∈ ALLW, w.before _ s = true := fun w h => hts9 w (List.mem_cons_of_mem _ h)
  have hown : s.vm.findClass RX2 = some m.cls := findClass_of_methodNamed B.named
  have hlocks := B.notSynchronized
  subst hsz
  have hD : ∀ a, S a ≠ none → dm S s.heap.size a := fun a h => Or.inl h
  have hA : ∀ q : Nat, s.heap.size ≤ q → dm S s.heap.size q := fun q h => Or.inr h
  have hS : va_S (dm S s.heap.size) s.heap s.heap [] := va_S.rf
  have hl := lv_entry [.ref a0] (n := 3) (Nat.le_of_ble_eq_true rfl)
  rw [lg_entry_eq]
  generalize (lg_sl [.ref a0] ++ List.replicate (3 - (lg_sl [.ref a0]).length) Slot.unset).toArray = ls at hl ⊢
  have hl : lv_has ls 3 [(0, .ref a0)] := hl
  rw [f_X2_liveDay] at h
  refine lv_aload_n hx hb dX2_liveDay_0 rfl (lv_at hl 0 rfl) ?_
  refine lv_dup hx hb dX2_liveDay_1 rfl ?_
  replace h := bd h
  obtain ⟨x1, q2, h⟩ := h
  refine fg_1_2 hx hb hts hown hK hP wd_157 q2 dX2_liveDay_2 ?_
  refine lv_iconst (v := 1) hx hb dX2_liveDay_5 (by decide) ?_
  refine lv_iadd hx hb dX2_liveDay_6 ?_
  replace h := bd h
  obtain ⟨Z3, q4, h⟩ := h
  refine fp_1_2 hx hb hts hown hK hP hD hS wd_157 q4 dX2_liveDay_7 (fun H locs hz9 hP hD hS => ?_)
  refine lv_iconst (v := 0) hx hb dX2_liveDay_10 (by decide) ?_
  refine lv_istore_n (lv' := [(1, .int 0), (0, .ref a0)]) hx hb dX2_liveDay_11 rfl hl (by decide) rfl (fun ls hl => ?_)
  refine lv_iconst (v := 0) hx hb dX2_liveDay_12 (by decide) ?_
  refine lv_istore_n (lv' := [(2, .int 0), (1, .int 0), (0, .ref a0)]) hx hb dX2_liveDay_13 rfl hl (by decide) rfl (fun ls hl => ?_)
  have L14 : ∀ (y14_0 : Nat) (fu : Nat) (S14_ : St) (y14_1 : Int32) (y14_2 : Int32) (res : Int32 × St), f_X2_liveDay_L14 y14_0 fu S14_ y14_1 y14_2 = some res → ∀ (H : Heap) (locs : List Loc) (ls : Array Slot), SP D cy S14_ H → (∀ a, S14_ a ≠ none → (dm S s.heap.size) a) → va_S (dm S s.heap.size) s.heap H locs → lv_has ls 3 [(0, .ref y14_0), (1, .int y14_1), (2, .int y14_2)] → (∀ (H : Heap) (locs : List Loc) (ls : Array Slot), SP D cy res.2 H → (∀ a, res.2 a ≠ none → (dm S s.heap.size) a) → va_S (dm S s.heap.size) s.heap H locs → lv_has ls 3 [(1, .int res.1)] → W p l e rm_X2_liveDay s m ([.ref a0] : List Value).toArray below meth c H locs 0 0 (MQ below (va_Qi (fun r' (_ : Unit) => r' = r) (fun _ t => PoS D cy S1 (dm S s.heap.size) t) (dm S s.heap.size)) ([.ref a0] : List Value).toArray s 0 0 (dm S s.heap.size)) (F0 m 48 ls [])) → W p l e rm_X2_liveDay s m ([.ref a0] : List Value).toArray below meth c H locs 0 0 (MQ below (va_Qi (fun r' (_ : Unit) => r' = r) (fun _ t => PoS D cy S1 (dm S s.heap.size) t) (dm S s.heap.size)) ([.ref a0] : List Value).toArray s 0 0 (dm S s.heap.size)) (F0 m 14 ls []) := by
    intro y14_0 fu
    induction fu with
    | zero =>
      intro S14_ y14_1 y14_2 res h
      rw [f_X2_liveDay_L14] at h
      cases h
    | succ fu ih =>
      intro S14_ y14_1 y14_2 res h H locs ls hP hD hS hl hexit
      rw [f_X2_liveDay_L14] at h
      refine lv_iload_n hx hb dX2_liveDay_14 rfl (lv_at hl 2 rfl) ?_
      refine lv_aload_n hx hb dX2_liveDay_15 rfl (lv_at hl 0 rfl) ?_
      replace h := bd h
      obtain ⟨x7, q8, h⟩ := h
      refine fg_1_1 hx hb hts hown hK hP wd_156 q8 dX2_liveDay_16 ?_
      refine lv_icmp_ge (tgt := 48) hx hb dX2_liveDay_19 (by decide) (fun c9 => ?_) (fun c9 => ?_)
      · replace h := ifp c9 h
        cases h
        exact hexit _ _ _ hP hD hS (lv_sub hl [1] rfl)
      · replace h := ifn c9 h
        refine lv_iload_n hx hb dX2_liveDay_22 rfl (lv_at hl 1 rfl) ?_
        refine lv_aload_n hx hb dX2_liveDay_23 rfl (lv_at hl 0 rfl) ?_
        replace h := bd h
        obtain ⟨x10, q11, h⟩ := h
        refine fg_1_0 hx hb hts hown hK hP wd_155 q11 dX2_liveDay_24 ?_
        refine lv_iload_n hx hb dX2_liveDay_27 rfl (lv_at hl 2 rfl) ?_
        replace h := bd h
        obtain ⟨x12, q13, h⟩ := h
        refine r_aR hx hb hK hP (t := 1) rfl q13 dX2_liveDay_28 ?_
        refine lv_aload_n hx hb dX2_liveDay_29 rfl (lv_at hl 0 rfl) ?_
        replace h := bd h
        obtain ⟨x14, q15, h⟩ := h
        refine fg_1_2 hx hb hts hown hK hP wd_157 q15 dX2_liveDay_30 ?_
        refine lv_aload_n hx hb dX2_liveDay_33 rfl (lv_at hl 0 rfl) ?_
        replace h := bd h
        obtain ⟨x16, q17, h⟩ := h
        refine fg_1_3 hx hb hts hown hK hP wd_159 q17 dX2_liveDay_34 ?_
        replace h := bd h
        obtain ⟨_, q18, h⟩ := h
        replace h := bd h
        obtain ⟨z20, q19, h⟩ := h
        refine c_X0_liveDay ⟨hx, hb, hml, hown, hts⟩ hl.1 hK hP hD hA hS wd_738 ⟨(Nat.le_of_ble_eq_true rfl), (Nat.le_of_ble_eq_true rfl)⟩ q19 q18 (Nat.le_of_ble_eq_true rfl) dX2_liveDay_37 ⟨(Nat.le_of_ble_eq_true rfl), (Nat.le_of_ble_eq_true rfl)⟩ (fun H locs hP hD hS => ?_)
        refine lv_iadd hx hb dX2_liveDay_40 ?_
        refine lv_istore_n (lv' := [(1, .int (y14_1 + z20.1)), (0, .ref y14_0), (2, .int y14_2)]) hx hb dX2_liveDay_41 rfl hl (by decide) rfl (fun ls hl => ?_)
        refine lv_iinc (v := (y14_2 + 1)) (lv' := [(2, .int (y14_2 + 1)), (1, .int (y14_1 + z20.1)), (0, .ref y14_0)]) hx hb dX2_liveDay_42 hl (k := 2) rfl rfl (by decide) rfl (fun ls hl => ?_)
        refine lv_goto (tgt := 14) hx hb dX2_liveDay_45 (by decide) ?_
        exact ih z20.2 (y14_1 + z20.1) (y14_2 + 1) _ h _ _ _ hP hD hS (lv_sub hl [2, 1, 0] rfl) hexit
  replace h := bd h
  obtain ⟨z5, q21, h⟩ := h
  refine L14 a0 FU Z3 0 0 z5 q21 _ _ _ hP hD hS (lv_sub hl [2, 1, 0] rfl) (fun H locs ls hP hD hS hl => ?_)
  refine lv_iload_n hx hb dX2_liveDay_48 rfl (lv_at hl 0 rfl) ?_
  cases h
  exact e_im hx hb hlocks hr hP hD hS (Nat.le_of_ble_eq_true rfl) (Nat.le_of_ble_eq_true rfl) dX2_liveDay_49
set_option maxRecDepth 100000 in
theorem c_X2_liveDay {p : Program} {l : Launch} {e : Env} {R : Room} {s : State} {m : MethodId} {args : Array Value} {below : List Frame} {meth : Method} {c : Code} {H : Heap} {locs : List Loc} {cells slots : Nat} {Q : State → Prop} {cc : ByteArray} {pc index nL : Nat} {ls : Array Slot} {rest : List Value} {D : va_G} {cy : Nat → ClassId} {A0 : Nat → Prop} {S : St} {H0 : Heap} {own : String} {u : Unit} {a0 : Nat} {r : Int32} {S1 : St}  (hF : CallFix p m c cc nL s args ALLW own) (hsz : ls.size = nL) (hK : va_K D vwCl (tyL cy) s) (hP : SP D cy S H) (hD : ∀ a, S a ≠ none → A0 a) (hA : ∀ q, H0.size ≤ q → A0 q) (hS : va_S A0 H0 H locs) (hk : Cond.methodLink own index yX2_liveDay ∈ ALLW) (hR : rm_X2_liveDay.frames + 1 ≤ R.frames ∧ 8 + (3 + 11) + rm_X2_liveDay.locals ≤ R.locals) (h : f_X2_liveDay S a0 = some (r, S1)) (hc : oO S a0 1 = some u) (hW : (rest.map fun v => v.category).sum ≤ 8) (hdg : decode cc pc = .ok (.invokevirtual index, 3)) (hf : cells + 0 ≤ R.cells ∧ slots + 0 ≤ R.slots)
    (kk : ∀ (H1 : Heap) (locs1 : List Loc), SP D cy S1 H1 → (∀ a, S1 a ≠ none → A0 a) → va_S A0 H0 H1 locs1 → W p l e R s m args below meth c H1 locs1 (cells + 0) (slots + 0) Q (F0 m (pc + 3) ls (.int r :: rest))) : W p l e R s m args below meth c H locs cells slots Q (F0 m pc ls (.ref a0 :: rest)) := by
  exact k_iVm (As := []) hF hsz (m_X2_liveDay l D cy H.size S a0 r S1 h) (cwV_of (n := 0) hF.2.2.2.2 hk wd_735 wd_736 wd_70 wd_737 rfl rfl (by decide +kernel) hR) rfl hK hP hD hA hS (ci := 1) hc rfl hW rfl hdg hf kk
/-- VowBlocks$Column.firstAlike(LVowBlocks$Row;)I -/
def f_X2_firstAlike_L2 (S2_ : St) (y2_0 : Nat) (y2_1 : Nat) : Nat → Int32 →  Option ((Int32) ⊕ (Unit))
  | 0, _ => none
  | fu + 1, y2_2 =>
    (gI S2_ y2_0 1 1).bind fun x3 =>
    if x3 ≤ y2_2 then
      some (.inr ())
    else
      (gR S2_ y2_0 1 0).bind fun x6 =>
      (aR S2_ x6 1 y2_2).bind fun x8 =>
      (gR S2_ x8 0 0).bind fun x10 =>
      (oO S2_ x10 3).bind fun _ =>
      (f_X4_isLike S2_ x10 y2_1).bind fun x14 =>
      if x14 = 0 then
        f_X2_firstAlike_L2 S2_ y2_0 y2_1 fu (y2_2 + 1)
      else
        some (.inl y2_2)
def f_X2_firstAlike (S : St) (a0 : Nat) (a1 : Nat) : Option (Int32) :=
  (f_X2_firstAlike_L2 S a0 a1 FU 0).bind fun z1 =>
  Sum.elim (fun y => some y) (fun t2_1 =>
  some (-1)
  ) z1
abbrev rm_X2_firstAlike : Room := { frames := 1, cells := 0, slots := 0, locals := 22 }
set_option maxHeartbeats 4000000 in
set_option maxRecDepth 100000 in
theorem m_X2_firstAlike (l : Launch) (D : va_G) (cy : Nat → ClassId) (S : St) (a0 : Nat) (a1 : Nat) (r : Int32) (h : f_X2_firstAlike S a0 a1 = some r) : Met l yX2_firstAlike (wsA yX2_firstAlike cX2_firstAlike 3 (some .int)) rm_X2_firstAlike (va_Pc [.ref a0, .ref a1] (PS D cy S)) (va_Qi (fun r' (_ : Unit) => r' = r) (fun _ _ => True) noA) 0 0 noA := by
  refine Met.ofW (cc := cX2_firstAlike) (maxL := 3) (ret := (some .int)) (by decide) rfl ?_
  intro p e s m args below meth c s₁ B hml hv
  obtain ⟨rfl, hP, hK⟩ := hv
  have hx := B.exec
  have hb := B.bytes
  have hr := B.returns
  have hts9 := atoms_spec (ws := wsA yX2_firstAlike cX2_firstAlike 3 (some .int)) B.pre
  have hts : ∀ w ∈ ALLW, w.before _ s = true := fun w h => hts9 w (List.mem_cons_of_mem _ h)
  have hown : s.vm.findClass RX2 = some m.cls := findClass_of_methodNamed B.named
  have hlocks := B.notSynchronized
  have hS : va_S noA s.heap s.heap [] := va_S.rf
  have hl := lv_entry [.ref a0, .ref a1] (n := 3) (Nat.le_of_ble_eq_true rfl)
  rw [lg_entry_eq]
  generalize (lg_sl [.ref a0, .ref a1] ++ List.replicate (3 - (lg_sl [.ref a0, .ref a1]).length) Slot.unset).toArray = ls at hl ⊢
  have hl : lv_has ls 3 [(0, .ref a0), (1, .ref a1)] := hl
  rw [f_X2_firstAlike] at h
  refine lv_iconst (v := 0) hx hb dX2_firstAlike_0 (by decide) ?_
  refine lv_istore_n (lv' := [(2, .int 0), (0, .ref a0), (1, .ref a1)]) hx hb dX2_firstAlike_1 rfl hl (by decide) rfl (fun ls hl => ?_)
  have L2 : ∀ (S2_ : St) (y2_0 : Nat) (y2_1 : Nat) (fu : Nat) (y2_2 : Int32) (res : (Int32) ⊕ (Unit)), f_X2_firstAlike_L2 S2_ y2_0 y2_1 fu y2_2 = some res → ∀ (H : Heap) (locs : List Loc) (ls : Array Slot), SP D cy S2_ H → va_S noA s.heap H locs → lv_has ls 3 [(0, .ref y2_0), (1, .ref y2_1), (2, .int y2_2)] → (∀ y : Int32, res = .inl y → y = r) → (∀ t2_1 : Unit, res = .inr t2_1 → ∀ (H : Heap) (locs : List Loc) (ls : Array Slot), SP D cy S2_ H → va_S noA s.heap H locs → lv_has ls 3 [] → W p l e rm_X2_firstAlike s m ([.ref a0, .ref a1] : List Value).toArray below meth c H locs 0 0 (MQ below (va_Qi (fun r' (_ : Unit) => r' = r) (fun _ _ => True) noA) ([.ref a0, .ref a1] : List Value).toArray s 0 0 noA) (F0 m 34 ls [])) → W p l e rm_X2_firstAlike s m ([.ref a0, .ref a1] : List Value).toArray below meth c H locs 0 0 (MQ below (va_Qi (fun r' (_ : Unit) => r' = r) (fun _ _ => True) noA) ([.ref a0, .ref a1] : List Value).toArray s 0 0 noA) (F0 m 2 ls []) := by
    intro S2_ y2_0 y2_1 fu
    induction fu with
    | zero =>
      intro y2_2 res h
      rw [f_X2_firstAlike_L2] at h
      cases h
    | succ fu ih =>
      intro y2_2 res h H locs ls hP hS hl hret hexit
      rw [f_X2_firstAlike_L2] at h
      refine lv_iload_n hx hb dX2_firstAlike_2 rfl (lv_at hl 2 rfl) ?_
      refine lv_aload_n hx hb dX2_firstAlike_3 rfl (lv_at hl 0 rfl) ?_
      replace h := bd h
      obtain ⟨x3, q4, h⟩ := h
      refine fg_1_1 hx hb hts hown hK hP wd_156 q4 dX2_firstAlike_4 ?_
      refine lv_icmp_ge (tgt := 34) hx hb dX2_firstAlike_7 (by decide) (fun c5 => ?_) (fun c5 => ?_)
      · replace h := ifp c5 h
        cases h
        exact hexit _ rfl _ _ _ hP hS (lv_sub hl [] rfl)
      · replace h := ifn c5 h
        refine lv_aload_n hx hb dX2_firstAlike_10 rfl (lv_at hl 0 rfl) ?_
        replace h := bd h
        obtain ⟨x6, q7, h⟩ := h
        refine fg_1_0 hx hb hts hown hK hP wd_155 q7 dX2_firstAlike_11 ?_
        refine lv_iload_n hx hb dX2_firstAlike_14 rfl (lv_at hl 2 rfl) ?_
        replace h := bd h
        obtain ⟨x8, q9, h⟩ := h
        refine r_aR hx hb hK hP (t := 1) rfl q9 dX2_firstAlike_15 ?_
        replace h := bd h
        obtain ⟨x10, q11, h⟩ := h
        refine fg_0_0 hx hb hts hown hK hP wd_122 q11 dX2_firstAlike_16 ?_
        refine lv_aload_n hx hb dX2_firstAlike_19 rfl (lv_at hl 1 rfl) ?_
        replace h := bd h
        obtain ⟨_, q12, h⟩ := h
        replace h := bd h
        obtain ⟨x14, q13, h⟩ := h
        refine c_X4_isLike ⟨hx, hb, hml, hown, hts⟩ hl.1 hK hP hS wd_322 ⟨(Nat.le_of_ble_eq_true rfl), (Nat.le_of_ble_eq_true rfl)⟩ q13 q12 (Nat.le_of_ble_eq_true rfl) dX2_firstAlike_20 ⟨(Nat.le_of_ble_eq_true rfl), (Nat.le_of_ble_eq_true rfl)⟩ (fun H locs hP hS => ?_)
        refine lv_if_eq (tgt := 28) hx hb dX2_firstAlike_23 (by decide) (fun c15 => ?_) (fun c15 => ?_)
        · replace h := ifp c15 h
          refine lv_iinc (v := (y2_2 + 1)) (lv' := [(2, .int (y2_2 + 1)), (0, .ref y2_0), (1, .ref y2_1)]) hx hb dX2_firstAlike_28 hl (k := 2) rfl rfl (by decide) rfl (fun ls hl => ?_)
          refine lv_goto (tgt := 2) hx hb dX2_firstAlike_31 (by decide) ?_
          exact ih (y2_2 + 1) _ h _ _ _ hP hS (lv_sub hl [1, 2, 0] rfl) hret hexit
        · replace h := ifn c15 h
          refine lv_iload_n hx hb dX2_firstAlike_26 rfl (lv_at hl 2 rfl) ?_
          cases h
          have h := hret _ rfl
          cases h
          exact e_ip hx hb hlocks hr hS (Nat.le_of_ble_eq_true rfl) (Nat.le_of_ble_eq_true rfl) dX2_firstAlike_27
  replace h := bd h
  obtain ⟨z1, q16, h⟩ := h
  refine L2 S a0 a1 FU 0 z1 q16 _ _ _ hP hS (lv_sub hl [1, 2, 0] rfl) (fun y hy => by
    replace h := sel_l hy h
    cases h
    rfl) (fun t2_1 hy H locs ls hP hS hl => ?_)
  replace h := sel_r hy h
  refine lv_iconst (v := (-1)) hx hb dX2_firstAlike_34 (by decide) ?_
  cases h
  exact e_ip hx hb hlocks hr hS (Nat.le_of_ble_eq_true rfl) (Nat.le_of_ble_eq_true rfl) dX2_firstAlike_35
set_option maxRecDepth 100000 in
theorem c_X2_firstAlike {p : Program} {l : Launch} {e : Env} {R : Room} {s : State} {m : MethodId} {args : Array Value} {below : List Frame} {meth : Method} {c : Code} {H : Heap} {locs : List Loc} {cells slots : Nat} {Q : State → Prop} {cc : ByteArray} {pc index nL : Nat} {ls : Array Slot} {rest : List Value} {D : va_G} {cy : Nat → ClassId} {A0 : Nat → Prop} {S : St} {H0 : Heap} {own : String} {u : Unit} {a0 : Nat} {a1 : Nat} {r : Int32}  (hF : CallFix p m c cc nL s args ALLW own) (hsz : ls.size = nL) (hK : va_K D vwCl (tyL cy) s) (hP : SP D cy S H) (hS : va_S A0 H0 H locs) (hk : Cond.methodLink own index yX2_firstAlike ∈ ALLW) (hR : rm_X2_firstAlike.frames + 1 ≤ R.frames ∧ 8 + (3 + 11) + rm_X2_firstAlike.locals ≤ R.locals) (h : f_X2_firstAlike S a0 a1 = some r) (hc : oO S a0 1 = some u) (hW : (rest.map fun v => v.category).sum ≤ 8) (hdg : decode cc pc = .ok (.invokevirtual index, 3)) (hf : cells + 0 ≤ R.cells ∧ slots + 0 ≤ R.slots)
    (kk : ∀ (H1 : Heap) (locs1 : List Loc), SP D cy S H1 → va_S A0 H0 H1 locs1 → W p l e R s m args below meth c H1 locs1 (cells + 0) (slots + 0) Q (F0 m (pc + 3) ls (.int r :: rest))) : W p l e R s m args below meth c H locs cells slots Q (F0 m pc ls (.ref a1 :: .ref a0 :: rest)) := by
  exact k_iVp (As := [.ref a1]) hF hsz (m_X2_firstAlike l D cy S a0 a1 r h) (cwV_of (n := 1) hF.2.2.2.2 hk wd_319 wd_320 wd_70 wd_321 rfl rfl (by decide +kernel) hR) rfl hK hP hS (ci := 1) hc rfl hW rfl hdg hf kk
/-- VowBlocks$Column.size()I -/
def f_X2_size (S : St) (a0 : Nat) : Option (Int32) :=
  (gI S a0 1 1).bind fun x1 =>
  some x1
abbrev rm_X2_size : Room := { frames := 0, cells := 0, slots := 0, locals := 0 }
set_option maxHeartbeats 4000000 in
set_option maxRecDepth 100000 in
theorem m_X2_size (l : Launch) (D : va_G) (cy : Nat → ClassId) (S : St) (a0 : Nat) (r : Int32) (h : f_X2_size S a0 = some r) : Met l yX2_size (wsA yX2_size cX2_size 1 (some .int)) rm_X2_size (va_Pc [.ref a0] (PS D cy S)) (va_Qi (fun r' (_ : Unit) => r' = r) (fun _ _ => True) noA) 0 0 noA := by
  refine Met.ofW (cc := cX2_size) (maxL := 1) (ret := (some .int)) (by decide) rfl ?_
  intro p e s m args below meth c s₁ B hml hv
  obtain ⟨rfl, hP, hK⟩ := hv
  have hx := B.exec
  have hb := B.bytes
  have hr := B.returns
  have hts9 := atoms_spec (ws := wsA yX2_size cX2_size 1 (some .int)) B.pre
  have hts : ∀ w ∈ ALLW, w.before _ s = true := fun w h => hts9 w (List.mem_cons_of_mem _ h)
  have hown : s.vm.findClass RX2 = some m.cls := findClass_of_methodNamed B.named
  have hlocks := B.notSynchronized
  have hS : va_S noA s.heap s.heap [] := va_S.rf
  have hl := lv_entry [.ref a0] (n := 1) (Nat.le_of_ble_eq_true rfl)
  rw [lg_entry_eq]
  generalize (lg_sl [.ref a0] ++ List.replicate (1 - (lg_sl [.ref a0]).length) Slot.unset).toArray = ls at hl ⊢
  have hl : lv_has ls 1 [(0, .ref a0)] := hl
  rw [f_X2_size] at h
  refine lv_aload_n hx hb dX2_size_0 rfl (lv_at hl 0 rfl) ?_
  replace h := bd h
  obtain ⟨x1, q2, h⟩ := h
  refine fg_1_1 hx hb hts hown hK hP wd_156 q2 dX2_size_1 ?_
  cases h
  exact e_ip hx hb hlocks hr hS (Nat.le_of_ble_eq_true rfl) (Nat.le_of_ble_eq_true rfl) dX2_size_4
set_option maxRecDepth 100000 in
theorem c_X2_size {p : Program} {l : Launch} {e : Env} {R : Room} {s : State} {m : MethodId} {args : Array Value} {below : List Frame} {meth : Method} {c : Code} {H : Heap} {locs : List Loc} {cells slots : Nat} {Q : State → Prop} {cc : ByteArray} {pc index nL : Nat} {ls : Array Slot} {rest : List Value} {D : va_G} {cy : Nat → ClassId} {A0 : Nat → Prop} {S : St} {H0 : Heap} {own : String} {u : Unit} {a0 : Nat} {r : Int32}  (hF : CallFix p m c cc nL s args ALLW own) (hsz : ls.size = nL) (hK : va_K D vwCl (tyL cy) s) (hP : SP D cy S H) (hS : va_S A0 H0 H locs) (hk : Cond.methodLink own index yX2_size ∈ ALLW) (hR : rm_X2_size.frames + 1 ≤ R.frames ∧ 8 + (1 + 11) + rm_X2_size.locals ≤ R.locals) (h : f_X2_size S a0 = some r) (hc : oO S a0 1 = some u) (hW : (rest.map fun v => v.category).sum ≤ 8) (hdg : decode cc pc = .ok (.invokevirtual index, 3)) (hf : cells + 0 ≤ R.cells ∧ slots + 0 ≤ R.slots)
    (kk : ∀ (H1 : Heap) (locs1 : List Loc), SP D cy S H1 → va_S A0 H0 H1 locs1 → W p l e R s m args below meth c H1 locs1 (cells + 0) (slots + 0) Q (F0 m (pc + 3) ls (.int r :: rest))) : W p l e R s m args below meth c H locs cells slots Q (F0 m pc ls (.ref a0 :: rest)) := by
  exact k_iVp (As := []) hF hsz (m_X2_size l D cy S a0 r h) (cwV_of (n := 0) hF.2.2.2.2 hk wd_268 wd_269 wd_70 wd_270 rfl rfl (by decide +kernel) hR) rfl hK hP hS (ci := 1) hc rfl hW rfl hdg hf kk
/-- VowBlocks$Column.differentRows()I -/
def f_X2_differentRows_L4 (S4_ : St) (y4_0 : Nat) : Nat → Int32 → Int32 →  Option (Int32)
  | 0, _, _ => none
  | fu + 1, y4_1, y4_2 =>
    (gI S4_ y4_0 1 1).bind fun x3 =>
    if x3 ≤ y4_2 then
      some y4_1
    else
      (gR S4_ y4_0 1 0).bind fun x6 =>
      (aR S4_ x6 1 y4_2).bind fun x8 =>
      (gR S4_ x8 0 0).bind fun x10 =>
      (oO S4_ y4_0 1).bind fun _ =>
      (f_X2_firstAlike S4_ y4_0 x10).bind fun x14 =>
      (
        if x14 = y4_2 then
          some (y4_1 + 1)
        else
          some y4_1
      : Option (Int32)).bind fun t15 =>
      f_X2_differentRows_L4 S4_ y4_0 fu t15 (y4_2 + 1)
def f_X2_differentRows (S : St) (a0 : Nat) : Option (Int32) :=
  (f_X2_differentRows_L4 S a0 FU 0 0).bind fun z1 =>
  some z1
abbrev rm_X2_differentRows : Room := { frames := 2, cells := 0, slots := 0, locals := 44 }
set_option maxHeartbeats 4000000 in
set_option maxRecDepth 100000 in
theorem m_X2_differentRows (l : Launch) (D : va_G) (cy : Nat → ClassId) (S : St) (a0 : Nat) (r : Int32) (h : f_X2_differentRows S a0 = some r) : Met l yX2_differentRows (wsA yX2_differentRows cX2_differentRows 3 (some .int)) rm_X2_differentRows (va_Pc [.ref a0] (PS D cy S)) (va_Qi (fun r' (_ : Unit) => r' = r) (fun _ _ => True) noA) 0 0 noA := by
  refine Met.ofW (cc := cX2_differentRows) (maxL := 3) (ret := (some .int)) (by decide) rfl ?_
  intro p e s m args below meth c s₁ B hml hv
  obtain ⟨rfl, hP, hK⟩ := hv
  have hx := B.exec
  have hb := B.bytes
  have hr := B.returns
  have hts9 := atoms_spec (ws := wsA yX2_differentRows cX2_differentRows 3 (some .int)) B.pre
  have hts : ∀ w ∈ ALLW, w.before _ s = true := fun w h => hts9 w (List.mem_cons_of_mem _ h)
  have hown : s.vm.findClass RX2 = some m.cls := findClass_of_methodNamed B.named
  have hlocks := B.notSynchronized
  have hS : va_S noA s.heap s.heap [] := va_S.rf
  have hl := lv_entry [.ref a0] (n := 3) (Nat.le_of_ble_eq_true rfl)
  rw [lg_entry_eq]
  generalize (lg_sl [.ref a0] ++ List.replicate (3 - (lg_sl [.ref a0]).length) Slot.unset).toArray = ls at hl ⊢
  have hl : lv_has ls 3 [(0, .ref a0)] := hl
  rw [f_X2_differentRows] at h
  refine lv_iconst (v := 0) hx hb dX2_differentRows_0 (by decide) ?_
  refine lv_istore_n (lv' := [(1, .int 0), (0, .ref a0)]) hx hb dX2_differentRows_1 rfl hl (by decide) rfl (fun ls hl => ?_)
  refine lv_iconst (v := 0) hx hb dX2_differentRows_2 (by decide) ?_
  refine lv_istore_n (lv' := [(2, .int 0), (1, .int 0), (0, .ref a0)]) hx hb dX2_differentRows_3 rfl hl (by decide) rfl (fun ls hl => ?_)
  have L4 : ∀ (S4_ : St) (y4_0 : Nat) (fu : Nat) (y4_1 : Int32) (y4_2 : Int32) (res : Int32), f_X2_differentRows_L4 S4_ y4_0 fu y4_1 y4_2 = some res → ∀ (H : Heap) (locs : List Loc) (ls : Array Slot), SP D cy S4_ H → va_S noA s.heap H locs → lv_has ls 3 [(0, .ref y4_0), (1, .int y4_1), (2, .int y4_2)] → (∀ (H : Heap) (locs : List Loc) (ls : Array Slot), SP D cy S4_ H → va_S noA s.heap H locs → lv_has ls 3 [(1, .int res)] → W p l e rm_X2_differentRows s m ([.ref a0] : List Value).toArray below meth c H locs 0 0 (MQ below (va_Qi (fun r' (_ : Unit) => r' = r) (fun _ _ => True) noA) ([.ref a0] : List Value).toArray s 0 0 noA) (F0 m 38 ls [])) → W p l e rm_X2_differentRows s m ([.ref a0] : List Value).toArray below meth c H locs 0 0 (MQ below (va_Qi (fun r' (_ : Unit) => r' = r) (fun _ _ => True) noA) ([.ref a0] : List Value).toArray s 0 0 noA) (F0 m 4 ls []) := by
    intro S4_ y4_0 fu
    induction fu with
    | zero =>
      intro y4_1 y4_2 res h
      rw [f_X2_differentRows_L4] at h
      cases h
    | succ fu ih =>
      intro y4_1 y4_2 res h H locs ls hP hS hl hexit
      rw [f_X2_differentRows_L4] at h
      refine lv_iload_n hx hb dX2_differentRows_4 rfl (lv_at hl 2 rfl) ?_
      refine lv_aload_n hx hb dX2_differentRows_5 rfl (lv_at hl 0 rfl) ?_
      replace h := bd h
      obtain ⟨x3, q4, h⟩ := h
      refine fg_1_1 hx hb hts hown hK hP wd_156 q4 dX2_differentRows_6 ?_
      refine lv_icmp_ge (tgt := 38) hx hb dX2_differentRows_9 (by decide) (fun c5 => ?_) (fun c5 => ?_)
      · replace h := ifp c5 h
        cases h
        exact hexit _ _ _ hP hS (lv_sub hl [1] rfl)
      · replace h := ifn c5 h
        refine lv_aload_n hx hb dX2_differentRows_12 rfl (lv_at hl 0 rfl) ?_
        refine lv_aload_n hx hb dX2_differentRows_13 rfl (lv_at hl 0 rfl) ?_
        replace h := bd h
        obtain ⟨x6, q7, h⟩ := h
        refine fg_1_0 hx hb hts hown hK hP wd_155 q7 dX2_differentRows_14 ?_
        refine lv_iload_n hx hb dX2_differentRows_17 rfl (lv_at hl 2 rfl) ?_
        replace h := bd h
        obtain ⟨x8, q9, h⟩ := h
        refine r_aR hx hb hK hP (t := 1) rfl q9 dX2_differentRows_18 ?_
        replace h := bd h
        obtain ⟨x10, q11, h⟩ := h
        refine fg_0_0 hx hb hts hown hK hP wd_122 q11 dX2_differentRows_19 ?_
        replace h := bd h
        obtain ⟨_, q12, h⟩ := h
        replace h := bd h
        obtain ⟨x14, q13, h⟩ := h
        refine c_X2_firstAlike ⟨hx, hb, hml, hown, hts⟩ hl.1 hK hP hS wd_339 ⟨(Nat.le_of_ble_eq_true rfl), (Nat.le_of_ble_eq_true rfl)⟩ q13 q12 (Nat.le_of_ble_eq_true rfl) dX2_differentRows_22 ⟨(Nat.le_of_ble_eq_true rfl), (Nat.le_of_ble_eq_true rfl)⟩ (fun H locs hP hS => ?_)
        refine lv_iload_n hx hb dX2_differentRows_25 rfl (lv_at hl 2 rfl) ?_
        replace h := bd h
        obtain ⟨t15, ht, h⟩ := h
        have K15 : ∀ (H : Heap) (locs : List Loc) (ls : Array Slot), SP D cy S4_ H → va_S noA s.heap H locs → lv_has ls 3 [(0, .ref y4_0), (1, .int t15), (2, .int y4_2)] → W p l e rm_X2_differentRows s m ([.ref a0] : List Value).toArray below meth c H locs 0 0 (MQ below (va_Qi (fun r' (_ : Unit) => r' = r) (fun _ _ => True) noA) ([.ref a0] : List Value).toArray s 0 0 noA) (F0 m 32 ls []) := by
          intro H locs ls hP hS hl
          refine lv_iinc (v := (y4_2 + 1)) (lv' := [(2, .int (y4_2 + 1)), (0, .ref y4_0), (1, .int t15)]) hx hb dX2_differentRows_32 hl (k := 2) rfl rfl (by decide) rfl (fun ls hl => ?_)
          refine lv_goto (tgt := 4) hx hb dX2_differentRows_35 (by decide) ?_
          exact ih t15 (y4_2 + 1) _ h _ _ _ hP hS (lv_sub hl [1, 2, 0] rfl) hexit
        replace h := ht
        refine lv_icmp_ne (tgt := 32) hx hb dX2_differentRows_26 (by decide) (fun c16 => ?_) (fun c16 => ?_)
        · replace h := ifn c16 h
          cases h
          exact K15 _ _ _ hP hS (lv_sub hl [0, 1, 2] rfl)
        · replace h := ifp c16 h
          refine lv_iinc (v := (y4_1 + 1)) (lv' := [(1, .int (y4_1 + 1)), (0, .ref y4_0), (2, .int y4_2)]) hx hb dX2_differentRows_29 hl (k := 1) rfl rfl (by decide) rfl (fun ls hl => ?_)
          cases h
          exact K15 _ _ _ hP hS (lv_sub hl [1, 0, 2] rfl)
  replace h := bd h
  obtain ⟨z1, q17, h⟩ := h
  refine L4 S a0 FU 0 0 z1 q17 _ _ _ hP hS (lv_sub hl [2, 1, 0] rfl) (fun H locs ls hP hS hl => ?_)
  refine lv_iload_n hx hb dX2_differentRows_38 rfl (lv_at hl 0 rfl) ?_
  cases h
  exact e_ip hx hb hlocks hr hS (Nat.le_of_ble_eq_true rfl) (Nat.le_of_ble_eq_true rfl) dX2_differentRows_39
set_option maxRecDepth 100000 in
theorem c_X2_differentRows {p : Program} {l : Launch} {e : Env} {R : Room} {s : State} {m : MethodId} {args : Array Value} {below : List Frame} {meth : Method} {c : Code} {H : Heap} {locs : List Loc} {cells slots : Nat} {Q : State → Prop} {cc : ByteArray} {pc index nL : Nat} {ls : Array Slot} {rest : List Value} {D : va_G} {cy : Nat → ClassId} {A0 : Nat → Prop} {S : St} {H0 : Heap} {own : String} {u : Unit} {a0 : Nat} {r : Int32}  (hF : CallFix p m c cc nL s args ALLW own) (hsz : ls.size = nL) (hK : va_K D vwCl (tyL cy) s) (hP : SP D cy S H) (hS : va_S A0 H0 H locs) (hk : Cond.methodLink own index yX2_differentRows ∈ ALLW) (hR : rm_X2_differentRows.frames + 1 ≤ R.frames ∧ 8 + (3 + 11) + rm_X2_differentRows.locals ≤ R.locals) (h : f_X2_differentRows S a0 = some r) (hc : oO S a0 1 = some u) (hW : (rest.map fun v => v.category).sum ≤ 8) (hdg : decode cc pc = .ok (.invokevirtual index, 3)) (hf : cells + 0 ≤ R.cells ∧ slots + 0 ≤ R.slots)
    (kk : ∀ (H1 : Heap) (locs1 : List Loc), SP D cy S H1 → va_S A0 H0 H1 locs1 → W p l e R s m args below meth c H1 locs1 (cells + 0) (slots + 0) Q (F0 m (pc + 3) ls (.int r :: rest))) : W p l e R s m args below meth c H locs cells slots Q (F0 m pc ls (.ref a0 :: rest)) := by
  exact k_iVp (As := []) hF hsz (m_X2_differentRows l D cy S a0 r h) (cwV_of (n := 0) hF.2.2.2.2 hk wd_336 wd_337 wd_70 wd_338 rfl rfl (by decide +kernel) hR) rfl hK hP hS (ci := 1) hc rfl hW rfl hdg hf kk
/-- VowBlocks$Column.blocksWithCode(I)I -/
def f_X2_blocksWithCode_L4 (S4_ : St) (y4_0 : Nat) (y4_1 : Int32) : Nat → Int32 → Int32 →  Option (Int32)
  | 0, _, _ => none
  | fu + 1, y4_2, y4_3 =>
    (gI S4_ y4_0 1 1).bind fun x3 =>
    if x3 ≤ y4_3 then
      some y4_2
    else
      (gR S4_ y4_0 1 0).bind fun x6 =>
      (aR S4_ x6 1 y4_3).bind fun x8 =>
      (gI S4_ x8 0 1).bind fun x10 =>
      (
        if x10 = y4_1 then
          some (y4_2 + 1)
        else
          some y4_2
      : Option (Int32)).bind fun t12 =>
      f_X2_blocksWithCode_L4 S4_ y4_0 y4_1 fu t12 (y4_3 + 1)
def f_X2_blocksWithCode (S : St) (a0 : Nat) (a1 : Int32) : Option (Int32) :=
  (f_X2_blocksWithCode_L4 S a0 a1 FU 0 0).bind fun z1 =>
  some z1
abbrev rm_X2_blocksWithCode : Room := { frames := 0, cells := 0, slots := 0, locals := 0 }
set_option maxHeartbeats 4000000 in
set_option maxRecDepth 100000 in
theorem m_X2_blocksWithCode (l : Launch) (D : va_G) (cy : Nat → ClassId) (S : St) (a0 : Nat) (a1 : Int32) (r : Int32) (h : f_X2_blocksWithCode S a0 a1 = some r) : Met l yX2_blocksWithCode (wsA yX2_blocksWithCode cX2_blocksWithCode 4 (some .int)) rm_X2_blocksWithCode (va_Pc [.ref a0, .int a1] (PS D cy S)) (va_Qi (fun r' (_ : Unit) => r' = r) (fun _ _ => True) noA) 0 0 noA := by
  refine Met.ofW (cc := cX2_blocksWithCode) (maxL := 4) (ret := (some .int)) (by decide) rfl ?_
  intro p e s m args below meth c s₁ B hml hv
  obtain ⟨rfl, hP, hK⟩ := hv
  have hx := B.exec
  have hb := B.bytes
  have hr := B.returns
  have hts9 := atoms_spec (ws := wsA yX2_blocksWithCode cX2_blocksWithCode 4 (some .int)) B.pre
  have hts : ∀ w ∈ ALLW, w.before _ s = true := fun w h => hts9 w (List.mem_cons_of_mem _ h)
  have hown : s.vm.findClass RX2 = some m.cls := findClass_of_methodNamed B.named
  have hlocks := B.notSynchronized
  have hS : va_S noA s.heap s.heap [] := va_S.rf
  have hl := lv_entry [.ref a0, .int a1] (n := 4) (Nat.le_of_ble_eq_true rfl)
  rw [lg_entry_eq]
  generalize (lg_sl [.ref a0, .int a1] ++ List.replicate (4 - (lg_sl [.ref a0, .int a1]).length) Slot.unset).toArray = ls at hl ⊢
  have hl : lv_has ls 4 [(0, .ref a0), (1, .int a1)] := hl
  rw [f_X2_blocksWithCode] at h
  refine lv_iconst (v := 0) hx hb dX2_blocksWithCode_0 (by decide) ?_
  refine lv_istore_n (lv' := [(2, .int 0), (0, .ref a0), (1, .int a1)]) hx hb dX2_blocksWithCode_1 rfl hl (by decide) rfl (fun ls hl => ?_)
  refine lv_iconst (v := 0) hx hb dX2_blocksWithCode_2 (by decide) ?_
  refine lv_istore_n (lv' := [(3, .int 0), (2, .int 0), (0, .ref a0), (1, .int a1)]) hx hb dX2_blocksWithCode_3 rfl hl (by decide) rfl (fun ls hl => ?_)
  have L4 : ∀ (S4_ : St) (y4_0 : Nat) (y4_1 : Int32) (fu : Nat) (y4_2 : Int32) (y4_3 : Int32) (res : Int32), f_X2_blocksWithCode_L4 S4_ y4_0 y4_1 fu y4_2 y4_3 = some res → ∀ (H : Heap) (locs : List Loc) (ls : Array Slot), SP D cy S4_ H → va_S noA s.heap H locs → lv_has ls 4 [(0, .ref y4_0), (1, .int y4_1), (2, .int y4_2), (3, .int y4_3)] → (∀ (H : Heap) (locs : List Loc) (ls : Array Slot), SP D cy S4_ H → va_S noA s.heap H locs → lv_has ls 4 [(2, .int res)] → W p l e rm_X2_blocksWithCode s m ([.ref a0, .int a1] : List Value).toArray below meth c H locs 0 0 (MQ below (va_Qi (fun r' (_ : Unit) => r' = r) (fun _ _ => True) noA) ([.ref a0, .int a1] : List Value).toArray s 0 0 noA) (F0 m 34 ls [])) → W p l e rm_X2_blocksWithCode s m ([.ref a0, .int a1] : List Value).toArray below meth c H locs 0 0 (MQ below (va_Qi (fun r' (_ : Unit) => r' = r) (fun _ _ => True) noA) ([.ref a0, .int a1] : List Value).toArray s 0 0 noA) (F0 m 4 ls []) := by
    intro S4_ y4_0 y4_1 fu
    induction fu with
    | zero =>
      intro y4_2 y4_3 res h
      rw [f_X2_blocksWithCode_L4] at h
      cases h
    | succ fu ih =>
      intro y4_2 y4_3 res h H locs ls hP hS hl hexit
      rw [f_X2_blocksWithCode_L4] at h
      refine lv_iload_n hx hb dX2_blocksWithCode_4 rfl (lv_at hl 3 rfl) ?_
      refine lv_aload_n hx hb dX2_blocksWithCode_5 rfl (lv_at hl 0 rfl) ?_
      replace h := bd h
      obtain ⟨x3, q4, h⟩ := h
      refine fg_1_1 hx hb hts hown hK hP wd_156 q4 dX2_blocksWithCode_6 ?_
      refine lv_icmp_ge (tgt := 34) hx hb dX2_blocksWithCode_9 (by decide) (fun c5 => ?_) (fun c5 => ?_)
      · replace h := ifp c5 h
        cases h
        exact hexit _ _ _ hP hS (lv_sub hl [2] rfl)
      · replace h := ifn c5 h
        refine lv_aload_n hx hb dX2_blocksWithCode_12 rfl (lv_at hl 0 rfl) ?_
        replace h := bd h
        obtain ⟨x6, q7, h⟩ := h
        refine fg_1_0 hx hb hts hown hK hP wd_155 q7 dX2_blocksWithCode_13 ?_
        refine lv_iload_n hx hb dX2_blocksWithCode_16 rfl (lv_at hl 3 rfl) ?_
        replace h := bd h
        obtain ⟨x8, q9, h⟩ := h
        refine r_aR hx hb hK hP (t := 1) rfl q9 dX2_blocksWithCode_17 ?_
        replace h := bd h
        obtain ⟨x10, q11, h⟩ := h
        refine fg_0_1 hx hb hts hown hK hP wd_124 q11 dX2_blocksWithCode_18 ?_
        refine lv_iload_n hx hb dX2_blocksWithCode_21 rfl (lv_at hl 1 rfl) ?_
        replace h := bd h
        obtain ⟨t12, ht, h⟩ := h
        have K12 : ∀ (H : Heap) (locs : List Loc) (ls : Array Slot), SP D cy S4_ H → va_S noA s.heap H locs → lv_has ls 4 [(0, .ref y4_0), (1, .int y4_1), (2, .int t12), (3, .int y4_3)] → W p l e rm_X2_blocksWithCode s m ([.ref a0, .int a1] : List Value).toArray below meth c H locs 0 0 (MQ below (va_Qi (fun r' (_ : Unit) => r' = r) (fun _ _ => True) noA) ([.ref a0, .int a1] : List Value).toArray s 0 0 noA) (F0 m 28 ls []) := by
          intro H locs ls hP hS hl
          refine lv_iinc (v := (y4_3 + 1)) (lv' := [(3, .int (y4_3 + 1)), (0, .ref y4_0), (1, .int y4_1), (2, .int t12)]) hx hb dX2_blocksWithCode_28 hl (k := 3) rfl rfl (by decide) rfl (fun ls hl => ?_)
          refine lv_goto (tgt := 4) hx hb dX2_blocksWithCode_31 (by decide) ?_
          exact ih t12 (y4_3 + 1) _ h _ _ _ hP hS (lv_sub hl [1, 2, 3, 0] rfl) hexit
        replace h := ht
        refine lv_icmp_ne (tgt := 28) hx hb dX2_blocksWithCode_22 (by decide) (fun c13 => ?_) (fun c13 => ?_)
        · replace h := ifn c13 h
          cases h
          exact K12 _ _ _ hP hS (lv_sub hl [0, 1, 2, 3] rfl)
        · replace h := ifp c13 h
          refine lv_iinc (v := (y4_2 + 1)) (lv' := [(2, .int (y4_2 + 1)), (0, .ref y4_0), (1, .int y4_1), (3, .int y4_3)]) hx hb dX2_blocksWithCode_25 hl (k := 2) rfl rfl (by decide) rfl (fun ls hl => ?_)
          cases h
          exact K12 _ _ _ hP hS (lv_sub hl [1, 2, 0, 3] rfl)
  replace h := bd h
  obtain ⟨z1, q14, h⟩ := h
  refine L4 S a0 a1 FU 0 0 z1 q14 _ _ _ hP hS (lv_sub hl [2, 3, 1, 0] rfl) (fun H locs ls hP hS hl => ?_)
  refine lv_iload_n hx hb dX2_blocksWithCode_34 rfl (lv_at hl 0 rfl) ?_
  cases h
  exact e_ip hx hb hlocks hr hS (Nat.le_of_ble_eq_true rfl) (Nat.le_of_ble_eq_true rfl) dX2_blocksWithCode_35
set_option maxRecDepth 100000 in
theorem c_X2_blocksWithCode {p : Program} {l : Launch} {e : Env} {R : Room} {s : State} {m : MethodId} {args : Array Value} {below : List Frame} {meth : Method} {c : Code} {H : Heap} {locs : List Loc} {cells slots : Nat} {Q : State → Prop} {cc : ByteArray} {pc index nL : Nat} {ls : Array Slot} {rest : List Value} {D : va_G} {cy : Nat → ClassId} {A0 : Nat → Prop} {S : St} {H0 : Heap} {own : String} {u : Unit} {a0 : Nat} {a1 : Int32} {r : Int32}  (hF : CallFix p m c cc nL s args ALLW own) (hsz : ls.size = nL) (hK : va_K D vwCl (tyL cy) s) (hP : SP D cy S H) (hS : va_S A0 H0 H locs) (hk : Cond.methodLink own index yX2_blocksWithCode ∈ ALLW) (hR : rm_X2_blocksWithCode.frames + 1 ≤ R.frames ∧ 8 + (4 + 11) + rm_X2_blocksWithCode.locals ≤ R.locals) (h : f_X2_blocksWithCode S a0 a1 = some r) (hc : oO S a0 1 = some u) (hW : (rest.map fun v => v.category).sum ≤ 8) (hdg : decode cc pc = .ok (.invokevirtual index, 3)) (hf : cells + 0 ≤ R.cells ∧ slots + 0 ≤ R.slots)
    (kk : ∀ (H1 : Heap) (locs1 : List Loc), SP D cy S H1 → va_S A0 H0 H1 locs1 → W p l e R s m args below meth c H1 locs1 (cells + 0) (slots + 0) Q (F0 m (pc + 3) ls (.int r :: rest))) : W p l e R s m args below meth c H locs cells slots Q (F0 m pc ls (.int a1 :: .ref a0 :: rest)) := by
  exact k_iVp (As := [.int a1]) hF hsz (m_X2_blocksWithCode l D cy S a0 a1 r h) (cwV_of (n := 1) hF.2.2.2.2 hk wd_345 wd_346 wd_70 wd_347 rfl rfl (by decide +kernel) hR) rfl hK hP hS (ci := 1) hc rfl hW rfl hdg hf kk
