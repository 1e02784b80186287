/-- VowBlocks$Block.<init>()V -/
def f_X0_init (S : St) (sz : Nat) (a0 : Nat) : Option (St × Nat) :=
  (f_X4_init (va_up S sz (some (.inl (3, [.null, .int 0])))) (sz + 1) sz).bind fun z2 =>
  (pR z2.1 a0 0 0 sz).bind fun Z4 =>
  (pI Z4 a0 0 1 0).bind fun Z6 =>
  (pI Z6 a0 0 2 0).bind fun Z8 =>
  (pI Z8 a0 0 3 0).bind fun Z10 =>
  (pI Z10 a0 0 4 0).bind fun Z12 =>
  (pI Z12 a0 0 5 0).bind fun Z14 =>
  (pI Z14 a0 0 6 0).bind fun Z16 =>
  (pI Z16 a0 0 7 0).bind fun Z18 =>
  some (Z18, z2.2)
abbrev rm_X0_init : Room := { frames := 2, cells := 2, slots := 26, locals := 32 }
set_option maxHeartbeats 4000000 in
set_option maxRecDepth 100000 in
theorem m_X0_init (l : Launch) (D : va_G) (cy : Nat → ClassId) (sz : Nat) (S : St) (a0 : Nat) (S1 : St) (sz1 : Nat) (h : f_X0_init S sz a0 = some (S1, sz1)) : Met l yX0_init (wsA yX0_init cX0_init 1 none) rm_X0_init (va_Pc [.ref a0] (PNA D cy S sz)) (va_Qv (fun _ : Unit => True) (fun _ t => t.heap.size = sz1 ∧ PoS D cy S1 (dm S sz) t) (dm S sz)) 2 26 (dm S sz) := by
  refine Met.ofW (cc := cX0_init) (maxL := 1) (ret := none) (by decide) rfl ?_
  intro p e s m args below meth c s₁ B hml hv
  obtain ⟨rfl, hz, hP, hK, hE⟩ := hv
  have hx := B.exec
  have hb := B.bytes
  have hr := B.returns
  have hts9 := atoms_spec (ws := wsA yX0_init cX0_init 1 none) B.pre
  have hts : ∀ w ∈ ALLW, w.before _ s = true := fun w h => hts9 w (List.mem_cons_of_mem _ h)
  have hown : s.vm.findClass RX0 = some m.cls := findClass_of_methodNamed B.named
  have hlocks := B.notSynchronized
  have hin : meth.name = "<init>" := (name_of_methodNamed B.named B.method).1
  have hD : ∀ a, S a ≠ none → dm S sz a := fun a h => Or.inl h
  have hA : ∀ q : Nat, s.heap.size ≤ q → dm S sz q := fun q h => Or.inr (hz ▸ h)
  have hS : va_S (dm S sz) s.heap s.heap [] := va_S.rf
  have hl := lv_entry [.ref a0] (n := 1) (Nat.le_of_ble_eq_true rfl)
  rw [lg_entry_eq]
  generalize (lg_sl [.ref a0] ++ List.replicate (1 - (lg_sl [.ref a0]).length) Slot.unset).toArray = ls at hl ⊢
  have hl : lv_has ls 1 [(0, .ref a0)] := hl
  rw [f_X0_init] at h
  refine lv_aload_n hx hb dX0_init_0 rfl (lv_at hl 0 rfl) ?_
  refine W.objInit hx hb hown (hts _ wd_105) (hts _ wd_91) (hts _ wd_92) rfl (hl.1.trans hml.symm) rfl dX0_init_1 (Nat.le_of_ble_eq_true rfl) (Nat.le_of_ble_eq_true rfl) ?_
  refine lv_aload_n hx hb dX0_init_4 rfl (lv_at hl 0 rfl) ?_
  refine r_new (ci := 3) (fs := [.null, .int 0]) (T := TX4) (N := 2) hx hb hts iX4 tyX4 tyX4_ok hown (hts _ wd_106) (hts _ wd_107) (hts _ wd_72) hK hP hD hS hA rfl (fun j hj => by have h9 : j < 2 := hj; match j, h9 with | 0, _ => rfl | 1, _ => rfl) (Nat.le_of_ble_eq_true rfl) (Nat.le_of_ble_eq_true rfl) dX0_init_5 hz (fun H hz hP hD hS => ?_)
  refine lv_dup hx hb dX0_init_8 rfl ?_
  replace h := bd h
  obtain ⟨z2, q3, h⟩ := h
  refine c_X4_init_n ⟨hx, hb, hml, hown, hts⟩ hl.1 hK hP hD hA hS hE (hE.1 _ wn_108) ⟨(Nat.le_of_ble_eq_true rfl), (Nat.le_of_ble_eq_true rfl)⟩ q3 hz (Nat.le_of_ble_eq_true rfl) dX0_init_9 ⟨(Nat.le_of_ble_eq_true rfl), (Nat.le_of_ble_eq_true rfl)⟩ (fun H locs hz hP hD hS => ?_)
  replace h := bd h
  obtain ⟨Z4, q5, h⟩ := h
  refine fp_0_0 hx hb hts hown hK hP hD hS hin rfl wd_120 q5 dX0_init_12 (fun H locs hz9 hP hD hS => ?_)
  replace hz := hz9.trans hz
  refine lv_aload_n hx hb dX0_init_15 rfl (lv_at hl 0 rfl) ?_
  refine lv_iconst (v := 0) hx hb dX0_init_16 (by decide) ?_
  replace h := bd h
  obtain ⟨Z6, q7, h⟩ := h
  refine fp_0_1 hx hb hts hown hK hP hD hS wd_123 q7 dX0_init_17 (fun H locs hz9 hP hD hS => ?_)
  replace hz := hz9.trans hz
  refine lv_aload_n hx hb dX0_init_20 rfl (lv_at hl 0 rfl) ?_
  refine lv_iconst (v := 0) hx hb dX0_init_21 (by decide) ?_
  replace h := bd h
  obtain ⟨Z8, q9, h⟩ := h
  refine fp_0_2 hx hb hts hown hK hP hD hS wd_126 q9 dX0_init_22 (fun H locs hz9 hP hD hS => ?_)
  replace hz := hz9.trans hz
  refine lv_aload_n hx hb dX0_init_25 rfl (lv_at hl 0 rfl) ?_
  refine lv_iconst (v := 0) hx hb dX0_init_26 (by decide) ?_
  replace h := bd h
  obtain ⟨Z10, q11, h⟩ := h
  refine fp_0_3 hx hb hts hown hK hP hD hS wd_128 q11 dX0_init_27 (fun H locs hz9 hP hD hS => ?_)
  replace hz := hz9.trans hz
  refine lv_aload_n hx hb dX0_init_30 rfl (lv_at hl 0 rfl) ?_
  refine lv_iconst (v := 0) hx hb dX0_init_31 (by decide) ?_
  replace h := bd h
  obtain ⟨Z12, q13, h⟩ := h
  refine fp_0_4 hx hb hts hown hK hP hD hS wd_130 q13 dX0_init_32 (fun H locs hz9 hP hD hS => ?_)
  replace hz := hz9.trans hz
  refine lv_aload_n hx hb dX0_init_35 rfl (lv_at hl 0 rfl) ?_
  refine lv_iconst (v := 0) hx hb dX0_init_36 (by decide) ?_
  replace h := bd h
  obtain ⟨Z14, q15, h⟩ := h
  refine fp_0_5 hx hb hts hown hK hP hD hS wd_132 q15 dX0_init_37 (fun H locs hz9 hP hD hS => ?_)
  replace hz := hz9.trans hz
  refine lv_aload_n hx hb dX0_init_40 rfl (lv_at hl 0 rfl) ?_
  refine lv_iconst (v := 0) hx hb dX0_init_41 (by decide) ?_
  replace h := bd h
  obtain ⟨Z16, q17, h⟩ := h
  refine fp_0_6 hx hb hts hown hK hP hD hS wd_134 q17 dX0_init_42 (fun H locs hz9 hP hD hS => ?_)
  replace hz := hz9.trans hz
  refine lv_aload_n hx hb dX0_init_45 rfl (lv_at hl 0 rfl) ?_
  refine lv_iconst (v := 0) hx hb dX0_init_46 (by decide) ?_
  replace h := bd h
  obtain ⟨Z18, q19, h⟩ := h
  refine fp_0_7 hx hb hts hown hK hP hD hS wd_136 q19 dX0_init_47 (fun H locs hz9 hP hD hS => ?_)
  replace hz := hz9.trans hz
  cases h
  exact e_vA hx hb hlocks hr hP hD hz hS (Nat.le_of_ble_eq_true rfl) (Nat.le_of_ble_eq_true rfl) dX0_init_50
set_option maxRecDepth 100000 in
theorem c_X0_init_n {p : Program} {l : Launch} {e : Env} {R : Room} {s : State} {m : MethodId} {args : Array Value} {below : List Frame} {meth : Method} {c : Code} {H : Heap} {locs : List Loc} {cells slots : Nat} {Q : State → Prop} {cc : ByteArray} {pc index nL : Nat} {ls : Array Slot} {rest : List Value} {D : va_G} {cy : Nat → ClassId} {A0 : Nat → Prop} {S : St} {H0 : Heap} {own : String} {a0 : Nat} {S1 : St} {sz1 szv : Nat}  (hF : CallFix p m c cc nL s args ALLW own) (hsz : ls.size = nL) (hK : va_K D vwCl (tyL cy) s) (hP : SP D cy S H) (hD : ∀ a, S a ≠ none → A0 a) (hA : ∀ q, H0.size ≤ q → A0 q) (hS : va_S A0 H0 H locs) (hE : NWA s) (hk : va_Nw (.methodLinkNest own index yX0_init "VowBlocks") s) (hR : rm_X0_init.frames + 1 ≤ R.frames ∧ 8 + (1 + 11) + rm_X0_init.locals ≤ R.locals) (h : f_X0_init S szv a0 = some (S1, sz1)) (hz : H.size = szv) (hW : (rest.map fun v => v.category).sum ≤ 8) (hdg : decode cc pc = .ok (.invokespecial index, 3)) (hf : cells + 2 ≤ R.cells ∧ slots + 26 ≤ R.slots)
    (kk : ∀ (H1 : Heap) (locs1 : List Loc), H1.size = sz1 → SP D cy S1 H1 → (∀ a, S1 a ≠ none → A0 a) → va_S A0 H0 H1 locs1 → W p l e R s m args below meth c H1 locs1 (cells + 2) (slots + 26) Q (F0 m (pc + 3) ls (rest))) : W p l e R s m args below meth c H locs cells slots Q (F0 m pc ls (.ref a0 :: rest)) := by
  subst hz
  exact k_N (As := []) (host := "VowBlocks") hF hsz (m_X0_init l D cy H.size S a0 S1 sz1 h) (cwN_of (n := 0) hF.2.2.2.2 hk wd_103 wd_71 wd_104 rfl rfl rfl (by decide +kernel) hR) rfl hK hP hD hA hS hE hW rfl hdg hf kk
/-- VowBlocks$Block.copyFrom(LVowBlocks$Block;)V -/
def f_X0_copyFrom (S : St) (a0 : Nat) (a1 : Nat) : Option (St) :=
  (gR S a0 0 0).bind fun x1 =>
  (gR S a1 0 0).bind fun x3 =>
  (oO S x1 3).bind fun _ =>
  (f_X4_copyFrom S x1 x3).bind fun z7 =>
  (gI z7 a1 0 1).bind fun x8 =>
  (pI z7 a0 0 1 x8).bind fun Z10 =>
  (gI Z10 a1 0 2).bind fun x12 =>
  (pI Z10 a0 0 2 x12).bind fun Z14 =>
  (gI Z14 a1 0 3).bind fun x16 =>
  (pI Z14 a0 0 3 x16).bind fun Z18 =>
  (gI Z18 a1 0 4).bind fun x20 =>
  (pI Z18 a0 0 4 x20).bind fun Z22 =>
  (gI Z22 a1 0 5).bind fun x24 =>
  (pI Z22 a0 0 5 x24).bind fun Z26 =>
  (gI Z26 a1 0 6).bind fun x28 =>
  (pI Z26 a0 0 6 x28).bind fun Z30 =>
  (gI Z30 a1 0 7).bind fun x32 =>
  (pI Z30 a0 0 7 x32).bind fun Z34 =>
  some Z34
abbrev rm_X0_copyFrom : Room := { frames := 1, cells := 0, slots := 0, locals := 22 }
set_option maxHeartbeats 4000000 in
set_option maxRecDepth 100000 in
theorem m_X0_copyFrom (l : Launch) (D : va_G) (cy : Nat → ClassId) (sz : Nat) (S : St) (a0 : Nat) (a1 : Nat) (S1 : St) (h : f_X0_copyFrom S a0 a1 = some S1) : Met l yX0_copyFrom (wsA yX0_copyFrom cX0_copyFrom 2 none) rm_X0_copyFrom (va_Pc [.ref a0, .ref a1] (PN D cy S sz)) (va_Qv (fun _ : Unit => True) (fun _ t => PoS D cy S1 (dm S sz) t) (dm S sz)) 0 0 (dm S sz) := by
  refine Met.ofW (cc := cX0_copyFrom) (maxL := 2) (ret := none) (by decide) rfl ?_
  intro p e s m args below meth c s₁ B hml hv
  obtain ⟨rfl, hsz, hP, hK⟩ := hv
  have hx := B.exec
  have hb := B.bytes
  have hr := B.returns
  have hts9 := atoms_spec (ws := wsA yX0_copyFrom cX0_copyFrom 2 none) B.pre
  have hts : ∀ w ∈ ALLW, w.before _ s = true := fun w h => hts9 w (List.mem_cons_of_mem _ h)
  have hown : s.vm.findClass RX0 = some m.cls := findClass_of_methodNamed B.named
  have hlocks := B.notSynchronized
  subst hsz
  have hD : ∀ a, S a ≠ none → dm S s.heap.size a := fun a h => Or.inl h
  have hA : ∀ q : Nat, s.heap.size ≤ q → dm S s.heap.size q := fun q h => Or.inr h
  have hS : va_S (dm S s.heap.size) s.heap s.heap [] := va_S.rf
  have hl := lv_entry [.ref a0, .ref a1] (n := 2) (Nat.le_of_ble_eq_true rfl)
  rw [lg_entry_eq]
  generalize (lg_sl [.ref a0, .ref a1] ++ List.replicate (2 - (lg_sl [.ref a0, .ref a1]).length) Slot.unset).toArray = ls at hl ⊢
  have hl : lv_has ls 2 [(0, .ref a0), (1, .ref a1)] := hl
  rw [f_X0_copyFrom] at h
  refine lv_aload_n hx hb dX0_copyFrom_0 rfl (lv_at hl 0 rfl) ?_
  replace h := bd h
  obtain ⟨x1, q2, h⟩ := h
  refine fg_0_0 hx hb hts hown hK hP wd_120 q2 dX0_copyFrom_1 ?_
  refine lv_aload_n hx hb dX0_copyFrom_4 rfl (lv_at hl 1 rfl) ?_
  replace h := bd h
  obtain ⟨x3, q4, h⟩ := h
  refine fg_0_0 hx hb hts hown hK hP wd_120 q4 dX0_copyFrom_5 ?_
  replace h := bd h
  obtain ⟨_, q5, h⟩ := h
  replace h := bd h
  obtain ⟨z7, q6, h⟩ := h
  refine c_X4_copyFrom ⟨hx, hb, hml, hown, hts⟩ hl.1 hK hP hD hA hS wd_598 ⟨(Nat.le_of_ble_eq_true rfl), (Nat.le_of_ble_eq_true rfl)⟩ q6 q5 (Nat.le_of_ble_eq_true rfl) dX0_copyFrom_8 ⟨(Nat.le_of_ble_eq_true rfl), (Nat.le_of_ble_eq_true rfl)⟩ (fun H locs hP hD hS => ?_)
  refine lv_aload_n hx hb dX0_copyFrom_11 rfl (lv_at hl 0 rfl) ?_
  refine lv_aload_n hx hb dX0_copyFrom_12 rfl (lv_at hl 1 rfl) ?_
  replace h := bd h
  obtain ⟨x8, q9, h⟩ := h
  refine fg_0_1 hx hb hts hown hK hP wd_123 q9 dX0_copyFrom_13 ?_
  replace h := bd h
  obtain ⟨Z10, q11, h⟩ := h
  refine fp_0_1 hx hb hts hown hK hP hD hS wd_123 q11 dX0_copyFrom_16 (fun H locs hz9 hP hD hS => ?_)
  refine lv_aload_n hx hb dX0_copyFrom_19 rfl (lv_at hl 0 rfl) ?_
  refine lv_aload_n hx hb dX0_copyFrom_20 rfl (lv_at hl 1 rfl) ?_
  replace h := bd h
  obtain ⟨x12, q13, h⟩ := h
  refine fg_0_2 hx hb hts hown hK hP wd_126 q13 dX0_copyFrom_21 ?_
  replace h := bd h
  obtain ⟨Z14, q15, h⟩ := h
  refine fp_0_2 hx hb hts hown hK hP hD hS wd_126 q15 dX0_copyFrom_24 (fun H locs hz9 hP hD hS => ?_)
  refine lv_aload_n hx hb dX0_copyFrom_27 rfl (lv_at hl 0 rfl) ?_
  refine lv_aload_n hx hb dX0_copyFrom_28 rfl (lv_at hl 1 rfl) ?_
  replace h := bd h
  obtain ⟨x16, q17, h⟩ := h
  refine fg_0_3 hx hb hts hown hK hP wd_128 q17 dX0_copyFrom_29 ?_
  replace h := bd h
  obtain ⟨Z18, q19, h⟩ := h
  refine fp_0_3 hx hb hts hown hK hP hD hS wd_128 q19 dX0_copyFrom_32 (fun H locs hz9 hP hD hS => ?_)
  refine lv_aload_n hx hb dX0_copyFrom_35 rfl (lv_at hl 0 rfl) ?_
  refine lv_aload_n hx hb dX0_copyFrom_36 rfl (lv_at hl 1 rfl) ?_
  replace h := bd h
  obtain ⟨x20, q21, h⟩ := h
  refine fg_0_4 hx hb hts hown hK hP wd_130 q21 dX0_copyFrom_37 ?_
  replace h := bd h
  obtain ⟨Z22, q23, h⟩ := h
  refine fp_0_4 hx hb hts hown hK hP hD hS wd_130 q23 dX0_copyFrom_40 (fun H locs hz9 hP hD hS => ?_)
  refine lv_aload_n hx hb dX0_copyFrom_43 rfl (lv_at hl 0 rfl) ?_
  refine lv_aload_n hx hb dX0_copyFrom_44 rfl (lv_at hl 1 rfl) ?_
  replace h := bd h
  obtain ⟨x24, q25, h⟩ := h
  refine fg_0_5 hx hb hts hown hK hP wd_132 q25 dX0_copyFrom_45 ?_
  replace h := bd h
  obtain ⟨Z26, q27, h⟩ := h
  refine fp_0_5 hx hb hts hown hK hP hD hS wd_132 q27 dX0_copyFrom_48 (fun H locs hz9 hP hD hS => ?_)
  refine lv_aload_n hx hb dX0_copyFrom_51 rfl (lv_at hl 0 rfl) ?_
  refine lv_aload_n hx hb dX0_copyFrom_52 rfl (lv_at hl 1 rfl) ?_
  replace h := bd h
  obtain ⟨x28, q29, h⟩ := h
  refine fg_0_6 hx hb hts hown hK hP wd_134 q29 dX0_copyFrom_53 ?_
  replace h := bd h
  obtain ⟨Z30, q31, h⟩ := h
  refine fp_0_6 hx hb hts hown hK hP hD hS wd_134 q31 dX0_copyFrom_56 (fun H locs hz9 hP hD hS => ?_)
  refine lv_aload_n hx hb dX0_copyFrom_59 rfl (lv_at hl 0 rfl) ?_
  refine lv_aload_n hx hb dX0_copyFrom_60 rfl (lv_at hl 1 rfl) ?_
  replace h := bd h
  obtain ⟨x32, q33, h⟩ := h
  refine fg_0_7 hx hb hts hown hK hP wd_136 q33 dX0_copyFrom_61 ?_
  replace h := bd h
  obtain ⟨Z34, q35, h⟩ := h
  refine fp_0_7 hx hb hts hown hK hP hD hS wd_136 q35 dX0_copyFrom_64 (fun H locs hz9 hP hD hS => ?_)
  cases h
  exact e_vm hx hb hlocks hr hP hD hS (Nat.le_of_ble_eq_true rfl) (Nat.le_of_ble_eq_true rfl) dX0_copyFrom_67
set_option maxRecDepth 100000 in
theorem c_X0_copyFrom {p : Program} {l : Launch} {e : Env} {R : Room} {s : State} {m : MethodId} {args : Array Value} {below : List Frame} {meth : Method} {c : Code} {H : Heap} {locs : List Loc} {cells slots : Nat} {Q : State → Prop} {cc : ByteArray} {pc index nL : Nat} {ls : Array Slot} {rest : List Value} {D : va_G} {cy : Nat → ClassId} {A0 : Nat → Prop} {S : St} {H0 : Heap} {own : String} {u : Unit} {a0 : Nat} {a1 : Nat} {S1 : St}  (hF : CallFix p m c cc nL s args ALLW own) (hsz : ls.size = nL) (hK : va_K D vwCl (tyL cy) s) (hP : SP D cy S H) (hD : ∀ a, S a ≠ none → A0 a) (hA : ∀ q, H0.size ≤ q → A0 q) (hS : va_S A0 H0 H locs) (hk : Cond.methodLink own index yX0_copyFrom ∈ ALLW) (hR : rm_X0_copyFrom.frames + 1 ≤ R.frames ∧ 8 + (2 + 11) + rm_X0_copyFrom.locals ≤ R.locals) (h : f_X0_copyFrom S a0 a1 = some S1) (hc : oO S a0 0 = some u) (hW : (rest.map fun v => v.category).sum ≤ 8) (hdg : decode cc pc = .ok (.invokevirtual index, 3)) (hf : cells + 0 ≤ R.cells ∧ slots + 0 ≤ R.slots)
    (kk : ∀ (H1 : Heap) (locs1 : List Loc), SP D cy S1 H1 → (∀ a, S1 a ≠ none → A0 a) → va_S A0 H0 H1 locs1 → W p l e R s m args below meth c H1 locs1 (cells + 0) (slots + 0) Q (F0 m (pc + 3) ls (rest))) : W p l e R s m args below meth c H locs cells slots Q (F0 m pc ls (.ref a1 :: .ref a0 :: rest)) := by
  exact k_vVm (As := [.ref a1]) hF hsz (m_X0_copyFrom l D cy H.size S a0 a1 S1 h) (cwV_of (n := 1) hF.2.2.2.2 hk wd_595 wd_596 wd_71 wd_597 rfl rfl (by decide +kernel) hR) rfl hK hP hD hA hS (ci := 0) hc rfl hW rfl hdg hf kk
/-- VowBlocks$Block.vow(I)V -/
def f_X0_vow (S : St) (a0 : Nat) (a1 : Int32) : Option (St) :=
  (gR S a0 0 0).bind fun x1 =>
  (f_X1_best S x1).bind fun x4 =>
  (pI S a0 0 1 x4).bind fun Z5 =>
  (pI Z5 a0 0 2 a1).bind fun Z7 =>
  (gI Z7 a0 0 7).bind fun x9 =>
  (pI Z7 a0 0 7 (x9 + 1)).bind fun Z11 =>
  some Z11
abbrev rm_X0_vow : Room := { frames := 3, cells := 0, slots := 0, locals := 71 }
set_option maxHeartbeats 4000000 in
set_option maxRecDepth 100000 in
theorem m_X0_vow (l : Launch) (D : va_G) (cy : Nat → ClassId) (sz : Nat) (S : St) (a0 : Nat) (a1 : Int32) (S1 : St) (h : f_X0_vow S a0 a1 = some S1) : Met l yX0_vow (wsA yX0_vow cX0_vow 2 none) rm_X0_vow (va_Pc [.ref a0, .int a1] (PN D cy S sz)) (va_Qv (fun _ : Unit => True) (fun _ t => PoS D cy S1 (dm S sz) t) (dm S sz)) 0 0 (dm S sz) := by
  refine Met.ofW (cc := cX0_vow) (maxL := 2) (ret := none) (by decide) rfl ?_
  intro p e s m args below meth c s₁ B hml hv
  obtain ⟨rfl, hsz, hP, hK⟩ := hv
  have hx := B.exec
  have hb := B.bytes
  have hr := B.returns
  have hts9 := atoms_spec (ws := wsA yX0_vow cX0_vow 2 none) B.pre
  have hts : ∀ w ∈ ALLW, w.before _ s = true := fun w h => hts9 w (List.mem_cons_of_mem _ h)
  have hown : s.vm.findClass RX0 = some m.cls := findClass_of_methodNamed B.named
  have hlocks := B.notSynchronized
  subst hsz
  have hD : ∀ a, S a ≠ none → dm S s.heap.size a := fun a h => Or.inl h
  have hA : ∀ q : Nat, s.heap.size ≤ q → dm S s.heap.size q := fun q h => Or.inr h
  have hS : va_S (dm S s.heap.size) s.heap s.heap [] := va_S.rf
  have hl := lv_entry [.ref a0, .int a1] (n := 2) (Nat.le_of_ble_eq_true rfl)
  rw [lg_entry_eq]
  generalize (lg_sl [.ref a0, .int a1] ++ List.replicate (2 - (lg_sl [.ref a0, .int a1]).length) Slot.unset).toArray = ls at hl ⊢
  have hl : lv_has ls 2 [(0, .ref a0), (1, .int a1)] := hl
  rw [f_X0_vow] at h
  refine lv_aload_n hx hb dX0_vow_0 rfl (lv_at hl 0 rfl) ?_
  refine lv_aload_n hx hb dX0_vow_1 rfl (lv_at hl 0 rfl) ?_
  replace h := bd h
  obtain ⟨x1, q2, h⟩ := h
  refine fg_0_0 hx hb hts hown hK hP wd_120 q2 dX0_vow_2 ?_
  replace h := bd h
  obtain ⟨x4, q3, h⟩ := h
  refine c_X1_best ⟨hx, hb, hml, hown, hts⟩ hl.1 hK hP hS wd_419 ⟨(Nat.le_of_ble_eq_true rfl), (Nat.le_of_ble_eq_true rfl)⟩ q3 (Nat.le_of_ble_eq_true rfl) dX0_vow_5 ⟨(Nat.le_of_ble_eq_true rfl), (Nat.le_of_ble_eq_true rfl)⟩ (fun H locs hP hS => ?_)
  replace h := bd h
  obtain ⟨Z5, q6, h⟩ := h
  refine fp_0_1 hx hb hts hown hK hP hD hS wd_123 q6 dX0_vow_8 (fun H locs hz9 hP hD hS => ?_)
  refine lv_aload_n hx hb dX0_vow_11 rfl (lv_at hl 0 rfl) ?_
  refine lv_iload_n hx hb dX0_vow_12 rfl (lv_at hl 1 rfl) ?_
  replace h := bd h
  obtain ⟨Z7, q8, h⟩ := h
  refine fp_0_2 hx hb hts hown hK hP hD hS wd_126 q8 dX0_vow_13 (fun H locs hz9 hP hD hS => ?_)
  refine lv_aload_n hx hb dX0_vow_16 rfl (lv_at hl 0 rfl) ?_
  refine lv_dup hx hb dX0_vow_17 rfl ?_
  replace h := bd h
  obtain ⟨x9, q10, h⟩ := h
  refine fg_0_7 hx hb hts hown hK hP wd_136 q10 dX0_vow_18 ?_
  refine lv_iconst (v := 1) hx hb dX0_vow_21 (by decide) ?_
  refine lv_iadd hx hb dX0_vow_22 ?_
  replace h := bd h
  obtain ⟨Z11, q12, h⟩ := h
  refine fp_0_7 hx hb hts hown hK hP hD hS wd_136 q12 dX0_vow_23 (fun H locs hz9 hP hD hS => ?_)
  cases h
  exact e_vm hx hb hlocks hr hP hD hS (Nat.le_of_ble_eq_true rfl) (Nat.le_of_ble_eq_true rfl) dX0_vow_26
set_option maxRecDepth 100000 in
theorem c_X0_vow {p : Program} {l : Launch} {e : Env} {R : Room} {s : State} {m : MethodId} {args : Array Value} {below : List Frame} {meth : Method} {c : Code} {H : Heap} {locs : List Loc} {cells slots : Nat} {Q : State → Prop} {cc : ByteArray} {pc index nL : Nat} {ls : Array Slot} {rest : List Value} {D : va_G} {cy : Nat → ClassId} {A0 : Nat → Prop} {S : St} {H0 : Heap} {own : String} {u : Unit} {a0 : Nat} {a1 : Int32} {S1 : St}  (hF : CallFix p m c cc nL s args ALLW own) (hsz : ls.size = nL) (hK : va_K D vwCl (tyL cy) s) (hP : SP D cy S H) (hD : ∀ a, S a ≠ none → A0 a) (hA : ∀ q, H0.size ≤ q → A0 q) (hS : va_S A0 H0 H locs) (hk : Cond.methodLink own index yX0_vow ∈ ALLW) (hR : rm_X0_vow.frames + 1 ≤ R.frames ∧ 8 + (2 + 11) + rm_X0_vow.locals ≤ R.locals) (h : f_X0_vow S a0 a1 = some S1) (hc : oO S a0 0 = some u) (hW : (rest.map fun v => v.category).sum ≤ 8) (hdg : decode cc pc = .ok (.invokevirtual index, 3)) (hf : cells + 0 ≤ R.cells ∧ slots + 0 ≤ R.slots)
    (kk : ∀ (H1 : Heap) (locs1 : List Loc), SP D cy S1 H1 → (∀ a, S1 a ≠ none → A0 a) → va_S A0 H0 H1 locs1 → W p l e R s m args below meth c H1 locs1 (cells + 0) (slots + 0) Q (F0 m (pc + 3) ls (rest))) : W p l e R s m args below meth c H locs cells slots Q (F0 m pc ls (.int a1 :: .ref a0 :: rest)) := by
  exact k_vVm (As := [.int a1]) hF hsz (m_X0_vow l D cy H.size S a0 a1 S1 h) (cwV_of (n := 1) hF.2.2.2.2 hk wd_609 wd_610 wd_71 wd_611 rfl rfl (by decide +kernel) hR) rfl hK hP hD hA hS (ci := 0) hc rfl hW rfl hdg hf kk
/-- VowBlocks$Block.begin(LVowBlocks$Row;I)V -/
def f_X0_begin (S : St) (a0 : Nat) (a1 : Nat) (a2 : Int32) : Option (St) :=
  (gR S a0 0 0).bind fun x1 =>
  (oO S x1 3).bind fun _ =>
  (f_X4_copyFrom S x1 a1).bind fun z5 =>
  (pI z5 a0 0 3 0).bind fun Z6 =>
  (pI Z6 a0 0 4 0).bind fun Z8 =>
  (pI Z8 a0 0 5 0).bind fun Z10 =>
  (pI Z10 a0 0 6 0).bind fun Z12 =>
  (pI Z12 a0 0 7 0).bind fun Z14 =>
  (oO Z14 a0 0).bind fun _ =>
  (f_X0_vow Z14 a0 a2).bind fun z18 =>
  some z18
abbrev rm_X0_begin : Room := { frames := 4, cells := 0, slots := 0, locals := 92 }
set_option maxHeartbeats 4000000 in
set_option maxRecDepth 100000 in
theorem m_X0_begin (l : Launch) (D : va_G) (cy : Nat → ClassId) (sz : Nat) (S : St) (a0 : Nat) (a1 : Nat) (a2 : Int32) (S1 : St) (h : f_X0_begin S a0 a1 a2 = some S1) : Met l yX0_begin (wsA yX0_begin cX0_begin 3 none) rm_X0_begin (va_Pc [.ref a0, .ref a1, .int a2] (PN D cy S sz)) (va_Qv (fun _ : Unit => True) (fun _ t => PoS D cy S1 (dm S sz) t) (dm S sz)) 0 0 (dm S sz) := by
  refine Met.ofW (cc := cX0_begin) (maxL := 3) (ret := none) (by decide) rfl ?_
  intro p e s m args below meth c s₁ B hml hv
  obtain ⟨rfl, hsz, hP, hK⟩ := hv
  have hx := B.exec
  have hb := B.bytes
  have hr := B.returns
  have hts9 := atoms_spec (ws := wsA yX0_begin cX0_begin 3 none) B.pre
  have hts : ∀ w ∈ ALLW, w.before _ s = true := fun w h => hts9 w (List.mem_cons_of_mem _ h)
  have hown : s.vm.findClass RX0 = some m.cls := findClass_of_methodNamed B.named
  have hlocks := B.notSynchronized
  subst hsz
  have hD : ∀ a, S a ≠ none → dm S s.heap.size a := fun a h => Or.inl h
  have hA : ∀ q : Nat, s.heap.size ≤ q → dm S s.heap.size q := fun q h => Or.inr h
  have hS : va_S (dm S s.heap.size) s.heap s.heap [] := va_S.rf
  have hl := lv_entry [.ref a0, .ref a1, .int a2] (n := 3) (Nat.le_of_ble_eq_true rfl)
  rw [lg_entry_eq]
  generalize (lg_sl [.ref a0, .ref a1, .int a2] ++ List.replicate (3 - (lg_sl [.ref a0, .ref a1, .int a2]).length) Slot.unset).toArray = ls at hl ⊢
  have hl : lv_has ls 3 [(0, .ref a0), (1, .ref a1), (2, .int a2)] := hl
  rw [f_X0_begin] at h
  refine lv_aload_n hx hb dX0_begin_0 rfl (lv_at hl 0 rfl) ?_
  replace h := bd h
  obtain ⟨x1, q2, h⟩ := h
  refine fg_0_0 hx hb hts hown hK hP wd_120 q2 dX0_begin_1 ?_
  refine lv_aload_n hx hb dX0_begin_4 rfl (lv_at hl 1 rfl) ?_
  replace h := bd h
  obtain ⟨_, q3, h⟩ := h
  replace h := bd h
  obtain ⟨z5, q4, h⟩ := h
  refine c_X4_copyFrom ⟨hx, hb, hml, hown, hts⟩ hl.1 hK hP hD hA hS wd_598 ⟨(Nat.le_of_ble_eq_true rfl), (Nat.le_of_ble_eq_true rfl)⟩ q4 q3 (Nat.le_of_ble_eq_true rfl) dX0_begin_5 ⟨(Nat.le_of_ble_eq_true rfl), (Nat.le_of_ble_eq_true rfl)⟩ (fun H locs hP hD hS => ?_)
  refine lv_aload_n hx hb dX0_begin_8 rfl (lv_at hl 0 rfl) ?_
  refine lv_iconst (v := 0) hx hb dX0_begin_9 (by decide) ?_
  replace h := bd h
  obtain ⟨Z6, q7, h⟩ := h
  refine fp_0_3 hx hb hts hown hK hP hD hS wd_128 q7 dX0_begin_10 (fun H locs hz9 hP hD hS => ?_)
  refine lv_aload_n hx hb dX0_begin_13 rfl (lv_at hl 0 rfl) ?_
  refine lv_iconst (v := 0) hx hb dX0_begin_14 (by decide) ?_
  replace h := bd h
  obtain ⟨Z8, q9, h⟩ := h
  refine fp_0_4 hx hb hts hown hK hP hD hS wd_130 q9 dX0_begin_15 (fun H locs hz9 hP hD hS => ?_)
  refine lv_aload_n hx hb dX0_begin_18 rfl (lv_at hl 0 rfl) ?_
  refine lv_iconst (v := 0) hx hb dX0_begin_19 (by decide) ?_
  replace h := bd h
  obtain ⟨Z10, q11, h⟩ := h
  refine fp_0_5 hx hb hts hown hK hP hD hS wd_132 q11 dX0_begin_20 (fun H locs hz9 hP hD hS => ?_)
  refine lv_aload_n hx hb dX0_begin_23 rfl (lv_at hl 0 rfl) ?_
  refine lv_iconst (v := 0) hx hb dX0_begin_24 (by decide) ?_
  replace h := bd h
  obtain ⟨Z12, q13, h⟩ := h
  refine fp_0_6 hx hb hts hown hK hP hD hS wd_134 q13 dX0_begin_25 (fun H locs hz9 hP hD hS => ?_)
  refine lv_aload_n hx hb dX0_begin_28 rfl (lv_at hl 0 rfl) ?_
  refine lv_iconst (v := 0) hx hb dX0_begin_29 (by decide) ?_
  replace h := bd h
  obtain ⟨Z14, q15, h⟩ := h
  refine fp_0_7 hx hb hts hown hK hP hD hS wd_136 q15 dX0_begin_30 (fun H locs hz9 hP hD hS => ?_)
  refine lv_aload_n hx hb dX0_begin_33 rfl (lv_at hl 0 rfl) ?_
  refine lv_iload_n hx hb dX0_begin_34 rfl (lv_at hl 2 rfl) ?_
  replace h := bd h
  obtain ⟨_, q16, h⟩ := h
  replace h := bd h
  obtain ⟨z18, q17, h⟩ := h
  refine c_X0_vow ⟨hx, hb, hml, hown, hts⟩ hl.1 hK hP hD hA hS wd_608 ⟨(Nat.le_of_ble_eq_true rfl), (Nat.le_of_ble_eq_true rfl)⟩ q17 q16 (Nat.le_of_ble_eq_true rfl) dX0_begin_35 ⟨(Nat.le_of_ble_eq_true rfl), (Nat.le_of_ble_eq_true rfl)⟩ (fun H locs hP hD hS => ?_)
  cases h
  exact e_vm hx hb hlocks hr hP hD hS (Nat.le_of_ble_eq_true rfl) (Nat.le_of_ble_eq_true rfl) dX0_begin_38
set_option maxRecDepth 100000 in
theorem c_X0_begin {p : Program} {l : Launch} {e : Env} {R : Room} {s : State} {m : MethodId} {args : Array Value} {below : List Frame} {meth : Method} {c : Code} {H : Heap} {locs : List Loc} {cells slots : Nat} {Q : State → Prop} {cc : ByteArray} {pc index nL : Nat} {ls : Array Slot} {rest : List Value} {D : va_G} {cy : Nat → ClassId} {A0 : Nat → Prop} {S : St} {H0 : Heap} {own : String} {u : Unit} {a0 : Nat} {a1 : Nat} {a2 : Int32} {S1 : St}  (hF : CallFix p m c cc nL s args ALLW own) (hsz : ls.size = nL) (hK : va_K D vwCl (tyL cy) s) (hP : SP D cy S H) (hD : ∀ a, S a ≠ none → A0 a) (hA : ∀ q, H0.size ≤ q → A0 q) (hS : va_S A0 H0 H locs) (hk : Cond.methodLink own index yX0_begin ∈ ALLW) (hR : rm_X0_begin.frames + 1 ≤ R.frames ∧ 8 + (3 + 11) + rm_X0_begin.locals ≤ R.locals) (h : f_X0_begin S a0 a1 a2 = some S1) (hc : oO S a0 0 = some u) (hW : (rest.map fun v => v.category).sum ≤ 8) (hdg : decode cc pc = .ok (.invokevirtual index, 3)) (hf : cells + 0 ≤ R.cells ∧ slots + 0 ≤ R.slots)
    (kk : ∀ (H1 : Heap) (locs1 : List Loc), SP D cy S1 H1 → (∀ a, S1 a ≠ none → A0 a) → va_S A0 H0 H1 locs1 → W p l e R s m args below meth c H1 locs1 (cells + 0) (slots + 0) Q (F0 m (pc + 3) ls (rest))) : W p l e R s m args below meth c H locs cells slots Q (F0 m pc ls (.int a2 :: .ref a1 :: .ref a0 :: rest)) := by
  exact k_vVm (As := [.ref a1, .int a2]) hF hsz (m_X0_begin l D cy H.size S a0 a1 a2 S1 h) (cwV_of (n := 2) hF.2.2.2.2 hk wd_605 wd_606 wd_71 wd_607 rfl rfl (by decide +kernel) hR) rfl hK hP hD hA hS (ci := 0) hc rfl hW rfl hdg hf kk
/-- VowBlocks$Block.absorb(LVowBlocks$Block;)V -/
def f_X0_absorb (S : St) (a0 : Nat) (a1 : Nat) : Option (St) :=
  (gR S a0 0 0).bind fun x1 =>
  (gR S a1 0 0).bind fun x3 =>
  (oO S x1 3).bind fun _ =>
  (f_X4_pushTail S x1 x3 0).bind fun z7 =>
  (gI z7 a0 0 3).bind fun x8 =>
  (gI z7 a1 0 3).bind fun x10 =>
  (pI z7 a0 0 3 (x8 + x10)).bind fun Z12 =>
  (gI Z12 a0 0 4).bind fun x14 =>
  (gI Z12 a1 0 4).bind fun x16 =>
  (pI Z12 a0 0 4 (x14 + x16)).bind fun Z18 =>
  (gI Z18 a0 0 6).bind fun x20 =>
  (gI Z18 a1 0 6).bind fun x22 =>
  (pI Z18 a0 0 6 (x20 + x22)).bind fun Z24 =>
  some Z24
abbrev rm_X0_absorb : Room := { frames := 3, cells := 0, slots := 0, locals := 67 }
set_option maxHeartbeats 4000000 in
set_option maxRecDepth 100000 in
theorem m_X0_absorb (l : Launch) (D : va_G) (cy : Nat → ClassId) (sz : Nat) (S : St) (a0 : Nat) (a1 : Nat) (S1 : St) (h : f_X0_absorb S a0 a1 = some S1) : Met l yX0_absorb (wsA yX0_absorb cX0_absorb 2 none) rm_X0_absorb (va_Pc [.ref a0, .ref a1] (PN D cy S sz)) (va_Qv (fun _ : Unit => True) (fun _ t => PoS D cy S1 (dm S sz) t) (dm S sz)) 0 0 (dm S sz) := by
  refine Met.ofW (cc := cX0_absorb) (maxL := 2) (ret := none) (by decide) rfl ?_
  intro p e s m args below meth c s₁ B hml hv
  obtain ⟨rfl, hsz, hP, hK⟩ := hv
  have hx := B.exec
  have hb := B.bytes
  have hr := B.returns
  have hts9 := atoms_spec (ws := wsA yX0_absorb cX0_absorb 2 none) B.pre
  have hts : ∀ w ∈ ALLW, w.before _ s = true := fun w h => hts9 w (List.mem_cons_of_mem _ h)
  have hown : s.vm.findClass RX0 = some m.cls := findClass_of_methodNamed B.named
  have hlocks := B.notSynchronized
  subst hsz
  have hD : ∀ a, S a ≠ none → dm S s.heap.size a := fun a h => Or.inl h
  have hA : ∀ q : Nat, s.heap.size ≤ q → dm S s.heap.size q := fun q h => Or.inr h
  have hS : va_S (dm S s.heap.size) s.heap s.heap [] := va_S.rf
  have hl := lv_entry [.ref a0, .ref a1] (n := 2) (Nat.le_of_ble_eq_true rfl)
  rw [lg_entry_eq]
  generalize (lg_sl [.ref a0, .ref a1] ++ List.replicate (2 - (lg_sl [.ref a0, .ref a1]).length) Slot.unset).toArray = ls at hl ⊢
  have hl : lv_has ls 2 [(0, .ref a0), (1, .ref a1)] := hl
  rw [f_X0_absorb] at h
  refine lv_aload_n hx hb dX0_absorb_0 rfl (lv_at hl 0 rfl) ?_
  replace h := bd h
  obtain ⟨x1, q2, h⟩ := h
  refine fg_0_0 hx hb hts hown hK hP wd_120 q2 dX0_absorb_1 ?_
  refine lv_aload_n hx hb dX0_absorb_4 rfl (lv_at hl 1 rfl) ?_
  replace h := bd h
  obtain ⟨x3, q4, h⟩ := h
  refine fg_0_0 hx hb hts hown hK hP wd_120 q4 dX0_absorb_5 ?_
  refine lv_iconst (v := 0) hx hb dX0_absorb_8 (by decide) ?_
  replace h := bd h
  obtain ⟨_, q5, h⟩ := h
  replace h := bd h
  obtain ⟨z7, q6, h⟩ := h
  refine c_X4_pushTail ⟨hx, hb, hml, hown, hts⟩ hl.1 hK hP hD hA hS wd_709 ⟨(Nat.le_of_ble_eq_true rfl), (Nat.le_of_ble_eq_true rfl)⟩ q6 q5 (Nat.le_of_ble_eq_true rfl) dX0_absorb_9 ⟨(Nat.le_of_ble_eq_true rfl), (Nat.le_of_ble_eq_true rfl)⟩ (fun H locs hP hD hS => ?_)
  refine lv_aload_n hx hb dX0_absorb_12 rfl (lv_at hl 0 rfl) ?_
  refine lv_dup hx hb dX0_absorb_13 rfl ?_
  replace h := bd h
  obtain ⟨x8, q9, h⟩ := h
  refine fg_0_3 hx hb hts hown hK hP wd_128 q9 dX0_absorb_14 ?_
  refine lv_aload_n hx hb dX0_absorb_17 rfl (lv_at hl 1 rfl) ?_
  replace h := bd h
  obtain ⟨x10, q11, h⟩ := h
  refine fg_0_3 hx hb hts hown hK hP wd_128 q11 dX0_absorb_18 ?_
  refine lv_iadd hx hb dX0_absorb_21 ?_
  replace h := bd h
  obtain ⟨Z12, q13, h⟩ := h
  refine fp_0_3 hx hb hts hown hK hP hD hS wd_128 q13 dX0_absorb_22 (fun H locs hz9 hP hD hS => ?_)
  refine lv_aload_n hx hb dX0_absorb_25 rfl (lv_at hl 0 rfl) ?_
  refine lv_dup hx hb dX0_absorb_26 rfl ?_
  replace h := bd h
  obtain ⟨x14, q15, h⟩ := h
  refine fg_0_4 hx hb hts hown hK hP wd_130 q15 dX0_absorb_27 ?_
  refine lv_aload_n hx hb dX0_absorb_30 rfl (lv_at hl 1 rfl) ?_
  replace h := bd h
  obtain ⟨x16, q17, h⟩ := h
  refine fg_0_4 hx hb hts hown hK hP wd_130 q17 dX0_absorb_31 ?_
  refine lv_iadd hx hb dX0_absorb_34 ?_
  replace h := bd h
  obtain ⟨Z18, q19, h⟩ := h
  refine fp_0_4 hx hb hts hown hK hP hD hS wd_130 q19 dX0_absorb_35 (fun H locs hz9 hP hD hS => ?_)
  refine lv_aload_n hx hb dX0_absorb_38 rfl (lv_at hl 0 rfl) ?_
  refine lv_dup hx hb dX0_absorb_39 rfl ?_
  replace h := bd h
  obtain ⟨x20, q21, h⟩ := h
  refine fg_0_6 hx hb hts hown hK hP wd_134 q21 dX0_absorb_40 ?_
  refine lv_aload_n hx hb dX0_absorb_43 rfl (lv_at hl 1 rfl) ?_
  replace h := bd h
  obtain ⟨x22, q23, h⟩ := h
  refine fg_0_6 hx hb hts hown hK hP wd_134 q23 dX0_absorb_44 ?_
  refine lv_iadd hx hb dX0_absorb_47 ?_
  replace h := bd h
  obtain ⟨Z24, q25, h⟩ := h
  refine fp_0_6 hx hb hts hown hK hP hD hS wd_134 q25 dX0_absorb_48 (fun H locs hz9 hP hD hS => ?_)
  cases h
  exact e_vm hx hb hlocks hr hP hD hS (Nat.le_of_ble_eq_true rfl) (Nat.le_of_ble_eq_true rfl) dX0_absorb_51
set_option maxRecDepth 100000 in
theorem c_X0_absorb {p : Program} {l : Launch} {e : Env} {R : Room} {s : State} {m : MethodId} {args : Array Value} {below : List Frame} {meth : Method} {c : Code} {H : Heap} {locs : List Loc} {cells slots : Nat} {Q : State → Prop} {cc : ByteArray} {pc index nL : Nat} {ls : Array Slot} {rest : List Value} {D : va_G} {cy : Nat → ClassId} {A0 : Nat → Prop} {S : St} {H0 : Heap} {own : String} {u : Unit} {a0 : Nat} {a1 : Nat} {S1 : St}  (hF : CallFix p m c cc nL s args ALLW own) (hsz : ls.size = nL) (hK : va_K D vwCl (tyL cy) s) (hP : SP D cy S H) (hD : ∀ a, S a ≠ none → A0 a) (hA : ∀ q, H0.size ≤ q → A0 q) (hS : va_S A0 H0 H locs) (hk : Cond.methodLink own index yX0_absorb ∈ ALLW) (hR : rm_X0_absorb.frames + 1 ≤ R.frames ∧ 8 + (2 + 11) + rm_X0_absorb.locals ≤ R.locals) (h : f_X0_absorb S a0 a1 = some S1) (hc : oO S a0 0 = some u) (hW : (rest.map fun v => v.category).sum ≤ 8) (hdg : decode cc pc = .ok (.invokevirtual index, 3)) (hf : cells + 0 ≤ R.cells ∧ slots + 0 ≤ R.slots)
    (kk : ∀ (H1 : Heap) (locs1 : List Loc), SP D cy S1 H1 → (∀ a, S1 a ≠ none → A0 a) → va_S A0 H0 H1 locs1 → W p l e R s m args below meth c H1 locs1 (cells + 0) (slots + 0) Q (F0 m (pc + 3) ls (rest))) : W p l e R s m args below meth c H locs cells slots Q (F0 m pc ls (.ref a1 :: .ref a0 :: rest)) := by
  exact k_vVm (As := [.ref a1]) hF hsz (m_X0_absorb l D cy H.size S a0 a1 S1 h) (cwV_of (n := 1) hF.2.2.2.2 hk wd_706 wd_707 wd_71 wd_708 rfl rfl (by decide +kernel) hR) rfl hK hP hD hA hS (ci := 0) hc rfl hW rfl hdg hf kk
/-- VowBlocks$Block.excess()I -/
def f_X0_excess (S : St) (a0 : Nat) : Option (Int32) :=
  (gR S a0 0 0).bind fun x1 =>
  (gI S a0 0 1).bind fun x3 =>
  (f_X1_bits S x1 x3).bind fun x6 =>
  (gR S a0 0 0).bind fun x7 =>
  (gR S a0 0 0).bind fun x9 =>
  (f_X1_best S x9).bind fun x12 =>
  (f_X1_bits S x7 x12).bind fun x14 =>
  some (x6 - x14)
abbrev rm_X0_excess : Room := { frames := 3, cells := 0, slots := 0, locals := 71 }
set_option maxHeartbeats 4000000 in
set_option maxRecDepth 100000 in
theorem m_X0_excess (l : Launch) (D : va_G) (cy : Nat → ClassId) (S : St) (a0 : Nat) (r : Int32) (h : f_X0_excess S a0 = some r) : Met l yX0_excess (wsA yX0_excess cX0_excess 1 (some .int)) rm_X0_excess (va_Pc [.ref a0] (PS D cy S)) (va_Qi (fun r' (_ : Unit) => r' = r) (fun _ _ => True) noA) 0 0 noA := by
  refine Met.ofW (cc := cX0_excess) (maxL := 1) (ret := (some .int)) (by decide) rfl ?_
  intro p e s m args below meth c s₁ B hml hv
  obtain ⟨rfl, hP, hK⟩ := hv
  have hx := B.exec
  have hb := B.bytes
  have hr := B.returns
  have hts9 := atoms_spec (ws := wsA yX0_excess cX0_excess 1 (some .int)) B.pre
  have hts : ∀ w ∈ ALLW, w.before _ s = true := fun w h => hts9 w (List.mem_cons_of_mem _ h)
  have hown : s.vm.findClass RX0 = some m.cls := findClass_of_methodNamed B.named
  have hlocks := B.notSynchronized
  have hS : va_S noA s.heap s.heap [] := va_S.rf
  have hl := lv_entry [.ref a0] (n := 1) (Nat.le_of_ble_eq_true rfl)
  rw [lg_entry_eq]
  generalize (lg_sl [.ref a0] ++ List.replicate (1 - (lg_sl [.ref a0]).length) Slot.unset).toArray = ls at hl ⊢
  have hl : lv_has ls 1 [(0, .ref a0)] := hl
  rw [f_X0_excess] at h
  refine lv_aload_n hx hb dX0_excess_0 rfl (lv_at hl 0 rfl) ?_
  replace h := bd h
  obtain ⟨x1, q2, h⟩ := h
  refine fg_0_0 hx hb hts hown hK hP wd_120 q2 dX0_excess_1 ?_
  refine lv_aload_n hx hb dX0_excess_4 rfl (lv_at hl 0 rfl) ?_
  replace h := bd h
  obtain ⟨x3, q4, h⟩ := h
  refine fg_0_1 hx hb hts hown hK hP wd_123 q4 dX0_excess_5 ?_
  replace h := bd h
  obtain ⟨x6, q5, h⟩ := h
  refine c_X1_bits ⟨hx, hb, hml, hown, hts⟩ hl.1 hK hP hS wd_418 ⟨(Nat.le_of_ble_eq_true rfl), (Nat.le_of_ble_eq_true rfl)⟩ q5 (Nat.le_of_ble_eq_true rfl) dX0_excess_8 ⟨(Nat.le_of_ble_eq_true rfl), (Nat.le_of_ble_eq_true rfl)⟩ (fun H locs hP hS => ?_)
  refine lv_aload_n hx hb dX0_excess_11 rfl (lv_at hl 0 rfl) ?_
  replace h := bd h
  obtain ⟨x7, q8, h⟩ := h
  refine fg_0_0 hx hb hts hown hK hP wd_120 q8 dX0_excess_12 ?_
  refine lv_aload_n hx hb dX0_excess_15 rfl (lv_at hl 0 rfl) ?_
  replace h := bd h
  obtain ⟨x9, q10, h⟩ := h
  refine fg_0_0 hx hb hts hown hK hP wd_120 q10 dX0_excess_16 ?_
  replace h := bd h
  obtain ⟨x12, q11, h⟩ := h
  refine c_X1_best ⟨hx, hb, hml, hown, hts⟩ hl.1 hK hP hS wd_419 ⟨(Nat.le_of_ble_eq_true rfl), (Nat.le_of_ble_eq_true rfl)⟩ q11 (Nat.le_of_ble_eq_true rfl) dX0_excess_19 ⟨(Nat.le_of_ble_eq_true rfl), (Nat.le_of_ble_eq_true rfl)⟩ (fun H locs hP hS => ?_)
  replace h := bd h
  obtain ⟨x14, q13, h⟩ := h
  refine c_X1_bits ⟨hx, hb, hml, hown, hts⟩ hl.1 hK hP hS wd_418 ⟨(Nat.le_of_ble_eq_true rfl), (Nat.le_of_ble_eq_true rfl)⟩ q13 (Nat.le_of_ble_eq_true rfl) dX0_excess_22 ⟨(Nat.le_of_ble_eq_true rfl), (Nat.le_of_ble_eq_true rfl)⟩ (fun H locs hP hS => ?_)
  refine lv_isub hx hb dX0_excess_25 ?_
  cases h
  exact e_ip hx hb hlocks hr hS (Nat.le_of_ble_eq_true rfl) (Nat.le_of_ble_eq_true rfl) dX0_excess_26
set_option maxRecDepth 100000 in
theorem c_X0_excess {p : Program} {l : Launch} {e : Env} {R : Room} {s : State} {m : MethodId} {args : Array Value} {below : List Frame} {meth : Method} {c : Code} {H : Heap} {locs : List Loc} {cells slots : Nat} {Q : State → Prop} {cc : ByteArray} {pc index nL : Nat} {ls : Array Slot} {rest : List Value} {D : va_G} {cy : Nat → ClassId} {A0 : Nat → Prop} {S : St} {H0 : Heap} {own : String} {u : Unit} {a0 : Nat} {r : Int32}  (hF : CallFix p m c cc nL s args ALLW own) (hsz : ls.size = nL) (hK : va_K D vwCl (tyL cy) s) (hP : SP D cy S H) (hS : va_S A0 H0 H locs) (hk : Cond.methodLink own index yX0_excess ∈ ALLW) (hR : rm_X0_excess.frames + 1 ≤ R.frames ∧ 8 + (1 + 11) + rm_X0_excess.locals ≤ R.locals) (h : f_X0_excess S a0 = some r) (hc : oO S a0 0 = some u) (hW : (rest.map fun v => v.category).sum ≤ 8) (hdg : decode cc pc = .ok (.invokevirtual index, 3)) (hf : cells + 0 ≤ R.cells ∧ slots + 0 ≤ R.slots)
    (kk : ∀ (H1 : Heap) (locs1 : List Loc), SP D cy S H1 → va_S A0 H0 H1 locs1 → W p l e R s m args below meth c H1 locs1 (cells + 0) (slots + 0) Q (F0 m (pc + 3) ls (.int r :: rest))) : W p l e R s m args below meth c H locs cells slots Q (F0 m pc ls (.ref a0 :: rest)) := by
  exact k_iVp (As := []) hF hsz (m_X0_excess l D cy S a0 r h) (cwV_of (n := 0) hF.2.2.2.2 hk wd_415 wd_416 wd_71 wd_417 rfl rfl (by decide +kernel) hR) rfl hK hP hS (ci := 0) hc rfl hW rfl hdg hf kk
/-- VowBlocks$Block.daysLeft(II)I -/
def f_X0_daysLeft (S : St) (a0 : Nat) (a1 : Int32) (a2 : Int32) : Option (Int32) :=
  (gI S a0 0 2).bind fun x1 =>
  some (if 0 < (a2 - (a1 - x1)) then (a2 - (a1 - x1)) else 0)
abbrev rm_X0_daysLeft : Room := { frames := 1, cells := 0, slots := 0, locals := 13 }
set_option maxHeartbeats 4000000 in
set_option maxRecDepth 100000 in
theorem m_X0_daysLeft (l : Launch) (D : va_G) (cy : Nat → ClassId) (S : St) (a0 : Nat) (a1 : Int32) (a2 : Int32) (r : Int32) (h : f_X0_daysLeft S a0 a1 a2 = some r) : Met l yX0_daysLeft (wsA yX0_daysLeft cX0_daysLeft 3 (some .int)) rm_X0_daysLeft (va_Pc [.ref a0, .int a1, .int a2] (PS D cy S)) (va_Qi (fun r' (_ : Unit) => r' = r) (fun _ _ => True) noA) 0 0 noA := by
  refine Met.ofW (cc := cX0_daysLeft) (maxL := 3) (ret := (some .int)) (by decide) rfl ?_
  intro p e s m args below meth c s₁ B hml hv
  obtain ⟨rfl, hP, hK⟩ := hv
  have hx := B.exec
  have hb := B.bytes
  have hr := B.returns
  have hts9 := atoms_spec (ws := wsA yX0_daysLeft cX0_daysLeft 3 (some .int)) B.pre
  have hts : ∀ w ∈ ALLW, w.before _ s = true := fun w h => hts9 w (List.mem_cons_of_mem _ h)
  have hown : s.vm.findClass RX0 = some m.cls := findClass_of_methodNamed B.named
  have hlocks := B.notSynchronized
  have hS : va_S noA s.heap s.heap [] := va_S.rf
  have hl := lv_entry [.ref a0, .int a1, .int a2] (n := 3) (Nat.le_of_ble_eq_true rfl)
  rw [lg_entry_eq]
  generalize (lg_sl [.ref a0, .int a1, .int a2] ++ List.replicate (3 - (lg_sl [.ref a0, .int a1, .int a2]).length) Slot.unset).toArray = ls at hl ⊢
  have hl : lv_has ls 3 [(0, .ref a0), (1, .int a1), (2, .int a2)] := hl
  rw [f_X0_daysLeft] at h
  refine lv_iconst (v := 0) hx hb dX0_daysLeft_0 (by decide) ?_
  refine lv_iload_n hx hb dX0_daysLeft_1 rfl (lv_at hl 2 rfl) ?_
  refine lv_iload_n hx hb dX0_daysLeft_2 rfl (lv_at hl 1 rfl) ?_
  refine lv_aload_n hx hb dX0_daysLeft_3 rfl (lv_at hl 0 rfl) ?_
  replace h := bd h
  obtain ⟨x1, q2, h⟩ := h
  refine fg_0_2 hx hb hts hown hK hP wd_126 q2 dX0_daysLeft_4 ?_
  refine lv_isub hx hb dX0_daysLeft_7 ?_
  refine lv_isub hx hb dX0_daysLeft_8 ?_
  refine va_mmax hx hb (hml.trans hl.1.symm) hown (hts _ wd_410) (hts _ wd_411) (hts _ wd_83) (hts _ wd_412) (Nat.le_of_ble_eq_true rfl) (Nat.le_of_ble_eq_true rfl) (Nat.le_of_ble_eq_true rfl) (Nat.le_of_ble_eq_true rfl) dX0_daysLeft_9 ?_
  cases h
  exact e_ip hx hb hlocks hr hS (Nat.le_of_ble_eq_true rfl) (Nat.le_of_ble_eq_true rfl) dX0_daysLeft_12
set_option maxRecDepth 100000 in
theorem c_X0_daysLeft {p : Program} {l : Launch} {e : Env} {R : Room} {s : State} {m : MethodId} {args : Array Value} {below : List Frame} {meth : Method} {c : Code} {H : Heap} {locs : List Loc} {cells slots : Nat} {Q : State → Prop} {cc : ByteArray} {pc index nL : Nat} {ls : Array Slot} {rest : List Value} {D : va_G} {cy : Nat → ClassId} {A0 : Nat → Prop} {S : St} {H0 : Heap} {own : String} {u : Unit} {a0 : Nat} {a1 : Int32} {a2 : Int32} {r : Int32}  (hF : CallFix p m c cc nL s args ALLW own) (hsz : ls.size = nL) (hK : va_K D vwCl (tyL cy) s) (hP : SP D cy S H) (hS : va_S A0 H0 H locs) (hk : Cond.methodLink own index yX0_daysLeft ∈ ALLW) (hR : rm_X0_daysLeft.frames + 1 ≤ R.frames ∧ 8 + (3 + 11) + rm_X0_daysLeft.locals ≤ R.locals) (h : f_X0_daysLeft S a0 a1 a2 = some r) (hc : oO S a0 0 = some u) (hW : (rest.map fun v => v.category).sum ≤ 8) (hdg : decode cc pc = .ok (.invokevirtual index, 3)) (hf : cells + 0 ≤ R.cells ∧ slots + 0 ≤ R.slots)
    (kk : ∀ (H1 : Heap) (locs1 : List Loc), SP D cy S H1 → va_S A0 H0 H1 locs1 → W p l e R s m args below meth c H1 locs1 (cells + 0) (slots + 0) Q (F0 m (pc + 3) ls (.int r :: rest))) : W p l e R s m args below meth c H locs cells slots Q (F0 m pc ls (.int a2 :: .int a1 :: .ref a0 :: rest)) := by
  exact k_iVp (As := [.int a1, .int a2]) hF hsz (m_X0_daysLeft l D cy S a0 a1 a2 r h) (cwV_of (n := 2) hF.2.2.2.2 hk wd_407 wd_408 wd_71 wd_409 rfl rfl (by decide +kernel) hR) rfl hK hP hS (ci := 0) hc rfl hW rfl hdg hf kk
/-- VowBlocks$Block.liveDay(II)I -/
def f_X0_liveDay (S : St) (a0 : Nat) (a1 : Int32) (a2 : Int32) : Option (Int32 × St) :=
  (oO S a0 0).bind fun _ =>
  (f_X0_excess S a0).bind fun x3 =>
  (gI S a0 0 3).bind fun x4 =>
  (pI S a0 0 3 (x4 + x3)).bind fun Z6 =>
  (oO Z6 a0 0).bind fun _ =>
  (f_X0_daysLeft Z6 a0 a1 a2).bind fun x10 =>
  (
    if x10 = 0 then
      (oO Z6 a0 0).bind fun _ =>
      (f_X0_vow Z6 a0 a1).bind fun z15 =>
      some z15
    else
      some Z6
  : Option (St)).bind fun t11 =>
  some (x3, t11)
abbrev rm_X0_liveDay : Room := { frames := 4, cells := 0, slots := 0, locals := 92 }
set_option maxHeartbeats 4000000 in
set_option maxRecDepth 100000 in
theorem m_X0_liveDay (l : Launch) (D : va_G) (cy : Nat → ClassId) (sz : Nat) (S : St) (a0 : Nat) (a1 : Int32) (a2 : Int32) (r : Int32) (S1 : St) (h : f_X0_liveDay S a0 a1 a2 = some (r, S1)) : Met l yX0_liveDay (wsA yX0_liveDay cX0_liveDay 4 (some .int)) rm_X0_liveDay (va_Pc [.ref a0, .int a1, .int a2] (PN D cy S sz)) (va_Qi (fun r' (_ : Unit) => r' = r) (fun _ t => PoS D cy S1 (dm S sz) t) (dm S sz)) 0 0 (dm S sz) := by
  refine Met.ofW (cc := cX0_liveDay) (maxL := 4) (ret := (some .int)) (by decide) rfl ?_
  intro p e s m args below meth c s₁ B hml hv
  obtain ⟨rfl, hsz, hP, hK⟩ := hv
  have hx := B.exec
  have hb := B.bytes
  have hr := B.returns
  have hts9 := atoms_spec (ws := wsA yX0_liveDay cX0_liveDay 4 (some .int)) B.pre
  have hts : ∀ w ∈ ALLW, w.before _ s = true := fun w h => hts9 w (List.mem_cons_of_mem _ h)
  have hown : s.vm.findClass RX0 = some m.cls := findClass_of_methodNamed B.named
  have hlocks := B.notSynchronized
  subst hsz
  have hD : ∀ a, S a ≠ none → dm S s.heap.size a := fun a h => Or.inl h
  have hA : ∀ q : Nat, s.heap.size ≤ q → dm S s.heap.size q := fun q h => Or.inr h
  have hS : va_S (dm S s.heap.size) s.heap s.heap [] := va_S.rf
  have hl := lv_entry [.ref a0, .int a1, .int a2] (n := 4) (Nat.le_of_ble_eq_true rfl)
  rw [lg_entry_eq]
  generalize (lg_sl [.ref a0, .int a1, .int a2] ++ List.replicate (4 - (lg_sl [.ref a0, .int a1, .int a2]).length) Slot.unset).toArray = ls at hl ⊢
  have hl : lv_has ls 4 [(0, .ref a0), (1, .int a1), (2, .int a2)] := hl
  rw [f_X0_liveDay] at h
  refine lv_aload_n hx hb dX0_liveDay_0 rfl (lv_at hl 0 rfl) ?_
  replace h := bd h
  obtain ⟨_, q1, h⟩ := h
  replace h := bd h
  obtain ⟨x3, q2, h⟩ := h
  refine c_X0_excess ⟨hx, hb, hml, hown, hts⟩ hl.1 hK hP hS wd_742 ⟨(Nat.le_of_ble_eq_true rfl), (Nat.le_of_ble_eq_true rfl)⟩ q2 q1 (Nat.le_of_ble_eq_true rfl) dX0_liveDay_1 ⟨(Nat.le_of_ble_eq_true rfl), (Nat.le_of_ble_eq_true rfl)⟩ (fun H locs hP hS => ?_)
  refine lv_istore_n (lv' := [(3, .int x3), (0, .ref a0), (1, .int a1), (2, .int a2)]) hx hb dX0_liveDay_4 rfl hl (by decide) rfl (fun ls hl => ?_)
  refine lv_aload_n hx hb dX0_liveDay_5 rfl (lv_at hl 1 rfl) ?_
  refine lv_dup hx hb dX0_liveDay_6 rfl ?_
  replace h := bd h
  obtain ⟨x4, q5, h⟩ := h
  refine fg_0_3 hx hb hts hown hK hP wd_128 q5 dX0_liveDay_7 ?_
  refine lv_iload_n hx hb dX0_liveDay_10 rfl (lv_at hl 0 rfl) ?_
  refine lv_iadd hx hb dX0_liveDay_11 ?_
  replace h := bd h
  obtain ⟨Z6, q7, h⟩ := h
  refine fp_0_3 hx hb hts hown hK hP hD hS wd_128 q7 dX0_liveDay_12 (fun H locs hz9 hP hD hS => ?_)
  refine lv_aload_n hx hb dX0_liveDay_15 rfl (lv_at hl 1 rfl) ?_
  refine lv_iload_n hx hb dX0_liveDay_16 rfl (lv_at hl 2 rfl) ?_
  refine lv_iload_n hx hb dX0_liveDay_17 rfl (lv_at hl 3 rfl) ?_
  replace h := bd h
  obtain ⟨_, q8, h⟩ := h
  replace h := bd h
  obtain ⟨x10, q9, h⟩ := h
  refine c_X0_daysLeft ⟨hx, hb, hml, hown, hts⟩ hl.1 hK hP hS wd_743 ⟨(Nat.le_of_ble_eq_true rfl), (Nat.le_of_ble_eq_true rfl)⟩ q9 q8 (Nat.le_of_ble_eq_true rfl) dX0_liveDay_18 ⟨(Nat.le_of_ble_eq_true rfl), (Nat.le_of_ble_eq_true rfl)⟩ (fun H locs hP hS => ?_)
  replace h := bd h
  obtain ⟨t11, ht, h⟩ := h
  have K11 : ∀ (H : Heap) (locs : List Loc) (ls : Array Slot), SP D cy t11 H → (∀ a, t11 a ≠ none → (dm S s.heap.size) a) → va_S (dm S s.heap.size) s.heap H locs → lv_has ls 4 [(3, .int x3)] → W p l e rm_X0_liveDay s m ([.ref a0, .int a1, .int a2] : List Value).toArray below meth c H locs 0 0 (MQ below (va_Qi (fun r' (_ : Unit) => r' = r) (fun _ t => PoS D cy S1 (dm S s.heap.size) t) (dm S s.heap.size)) ([.ref a0, .int a1, .int a2] : List Value).toArray s 0 0 (dm S s.heap.size)) (F0 m 29 ls []) := by
    intro H locs ls hP hD hS hl
    refine lv_iload_n hx hb dX0_liveDay_29 rfl (lv_at hl 0 rfl) ?_
    cases h
    exact e_im hx hb hlocks hr hP hD hS (Nat.le_of_ble_eq_true rfl) (Nat.le_of_ble_eq_true rfl) dX0_liveDay_30
  replace h := ht
  refine lv_if_ne (tgt := 29) hx hb dX0_liveDay_21 (by decide) (fun c12 => ?_) (fun c12 => ?_)
  · replace h := ifn c12 h
    cases h
    exact K11 _ _ _ hP hD hS (lv_sub hl [0] rfl)
  · replace h := ifp c12 h
    refine lv_aload_n hx hb dX0_liveDay_24 rfl (lv_at hl 1 rfl) ?_
    refine lv_iload_n hx hb dX0_liveDay_25 rfl (lv_at hl 2 rfl) ?_
    replace h := bd h
    obtain ⟨_, q13, h⟩ := h
    replace h := bd h
    obtain ⟨z15, q14, h⟩ := h
    refine c_X0_vow ⟨hx, hb, hml, hown, hts⟩ hl.1 hK hP hD hA hS wd_608 ⟨(Nat.le_of_ble_eq_true rfl), (Nat.le_of_ble_eq_true rfl)⟩ q14 q13 (Nat.le_of_ble_eq_true rfl) dX0_liveDay_26 ⟨(Nat.le_of_ble_eq_true rfl), (Nat.le_of_ble_eq_true rfl)⟩ (fun H locs hP hD hS => ?_)
    cases h
    exact K11 _ _ _ hP hD hS (lv_sub hl [0] rfl)
set_option maxRecDepth 100000 in
theorem c_X0_liveDay {p : Program} {l : Launch} {e : Env} {R : Room} {s : State} {m : MethodId} {args : Array Value} {below : List Frame} {meth : Method} {c : Code} {H : Heap} {locs : List Loc} {cells slots : Nat} {Q : State → Prop} {cc : ByteArray} {pc index nL : Nat} {ls : Array Slot} {rest : List Value} {D : va_G} {cy : Nat → ClassId} {A0 : Nat → Prop} {S : St} {H0 : Heap} {own : String} {u : Unit} {a0 : Nat} {a1 : Int32} {a2 : Int32} {r : Int32} {S1 : St}  (hF : CallFix p m c cc nL s args ALLW own) (hsz : ls.size = nL) (hK : va_K D vwCl (tyL cy) s) (hP : SP D cy S H) (hD : ∀ a, S a ≠ none → A0 a) (hA : ∀ q, H0.size ≤ q → A0 q) (hS : va_S A0 H0 H locs) (hk : Cond.methodLink own index yX0_liveDay ∈ ALLW) (hR : rm_X0_liveDay.frames + 1 ≤ R.frames ∧ 8 + (4 + 11) + rm_X0_liveDay.locals ≤ R.locals) (h : f_X0_liveDay S a0 a1 a2 = some (r, S1)) (hc : oO S a0 0 = some u) (hW : (rest.map fun v => v.category).sum ≤ 8) (hdg : decode cc pc = .ok (.invokevirtual index, 3)) (hf : cells + 0 ≤ R.cells ∧ slots + 0 ≤ R.slots)
    (kk : ∀ (H1 : Heap) (locs1 : List Loc), SP D cy S1 H1 → (∀ a, S1 a ≠ none → A0 a) → va_S A0 H0 H1 locs1 → W p l e R s m args below meth c H1 locs1 (cells + 0) (slots + 0) Q (F0 m (pc + 3) ls (.int r :: rest))) : W p l e R s m args below meth c H locs cells slots Q (F0 m pc ls (.int a2 :: .int a1 :: .ref a0 :: rest)) := by
  exact k_iVm (As := [.int a1, .int a2]) hF hsz (m_X0_liveDay l D cy H.size S a0 a1 a2 r S1 h) (cwV_of (n := 2) hF.2.2.2.2 hk wd_739 wd_740 wd_71 wd_741 rfl rfl (by decide +kernel) hR) rfl hK hP hD hA hS (ci := 0) hc rfl hW rfl hdg hf kk
