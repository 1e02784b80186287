/-- java/lang/Double.isNaN(D)Z -/
def f_Jxe99ae_isNaN_b9ae7 (a0 : UInt64) : Option (Int32) :=
  (
    if (Op.cmpValue (FP.dcmp a0 a0) .l) = 0 then
      some 0
    else
      some 1
  : Option (Int32)).bind fun t1 =>
  (zz t1).bind fun _ =>
  some t1
abbrev rm_Jxe99ae_isNaN_b9ae7 : Room := { frames := 0, cells := 0, slots := 0, locals := 0 }
set_option maxHeartbeats 4000000 in
set_option maxRecDepth 100000 in
theorem m_Jxe99ae_isNaN_b9ae7 (l : Launch) (D : va_G) (cy : Nat → ClassId) (S : St) (a0 : UInt64) (r : Int32) (h : f_Jxe99ae_isNaN_b9ae7 a0 = some r) : Met l yJxe99ae_isNaN_b9ae7 (wsA yJxe99ae_isNaN_b9ae7 cJxe99ae_isNaN_b9ae7 2 (some .boolean)) rm_Jxe99ae_isNaN_b9ae7 (va_Pc [.double a0] (PS D cy S)) (va_Qi (fun r' (_ : Unit) => r' = r) (fun _ _ => True) noA) 0 0 noA := by
  refine Met.ofW (cc := cJxe99ae_isNaN_b9ae7) (maxL := 2) (ret := (some .boolean)) (by decide) rfl ?_
  intro p e s m args below meth c s₁ B hml hv
  obtain ⟨rfl, hP, hK⟩ := hv
  have hx := B.exec
  have hb := B.bytes
  have hr := B.returns
  have hts9 := atoms_spec (ws := wsA yJxe99ae_isNaN_b9ae7 cJxe99ae_isNaN_b9ae7 2 (some .boolean)) B.pre
  have hts : ∀ w ∈ ALLW, w.before _ s = true := fun w h => hts9 w (List.mem_cons_of_mem _ h)
  have hown : s.vm.findClass RJxe99ae = some m.cls := findClass_of_methodNamed B.named
  have hlocks := B.notSynchronized
  have hS : va_S noA s.heap s.heap [] := va_S.rf
  have hl := lv_entry [.double a0] (n := 2) (Nat.le_of_ble_eq_true rfl)
  rw [lg_entry_eq]
  generalize (lg_sl [.double a0] ++ List.replicate (2 - (lg_sl [.double a0]).length) Slot.unset).toArray = ls at hl ⊢
  have hl : lv_has ls 2 [(0, .double a0)] := hl
  rw [f_Jxe99ae_isNaN_b9ae7] at h
  refine lv_dload_n hx hb dJxe99ae_isNaN_b9ae7_0 rfl (lv_at hl 0 rfl) ?_
  refine lv_dload_n hx hb dJxe99ae_isNaN_b9ae7_1 rfl (lv_at hl 0 rfl) ?_
  refine lv_dcmp hx hb dJxe99ae_isNaN_b9ae7_2 ?_
  replace h := bd h
  obtain ⟨t1, ht, h⟩ := h
  have K1 : ∀ (H : Heap) (locs : List Loc) (ls : Array Slot), SP D cy S H → va_S noA s.heap H locs → lv_has ls 2 [] → W p l e rm_Jxe99ae_isNaN_b9ae7 s m ([.double a0] : List Value).toArray below meth c H locs 0 0 (MQ below (va_Qi (fun r' (_ : Unit) => r' = r) (fun _ _ => True) noA) ([.double a0] : List Value).toArray s 0 0 noA) (F0 m 11 ls [.int t1]) := by
    intro H locs ls hP hS hl
    replace h := bd h
    obtain ⟨_, q3, h⟩ := h
    cases h
    exact e_zp hx hb hlocks (zz_spec q3) hr hS (Nat.le_of_ble_eq_true rfl) (Nat.le_of_ble_eq_true rfl) dJxe99ae_isNaN_b9ae7_11
  replace h := ht
  refine lv_if_eq (tgt := 10) hx hb dJxe99ae_isNaN_b9ae7_3 (by decide) (fun c2 => ?_) (fun c2 => ?_)
  · replace h := ifp c2 h
    refine lv_iconst (v := 0) hx hb dJxe99ae_isNaN_b9ae7_10 (by decide) ?_
    cases h
    exact K1 _ _ _ hP hS (lv_sub hl [] rfl)
  · replace h := ifn c2 h
    refine lv_iconst (v := 1) hx hb dJxe99ae_isNaN_b9ae7_6 (by decide) ?_
    refine lv_goto (tgt := 11) hx hb dJxe99ae_isNaN_b9ae7_7 (by decide) ?_
    cases h
    exact K1 _ _ _ hP hS (lv_sub hl [] rfl)
set_option maxRecDepth 100000 in
theorem c_Jxe99ae_isNaN_b9ae7 {p : Program} {l : Launch} {e : Env} {R : Room} {s : State} {m : MethodId} {args : Array Value} {below : List Frame} {meth : Method} {c : Code} {H : Heap} {locs : List Loc} {cells slots : Nat} {Q : State → Prop} {cc : ByteArray} {pc index nL : Nat} {ls : Array Slot} {rest : List Value} {D : va_G} {cy : Nat → ClassId} {A0 : Nat → Prop} {S : St} {H0 : Heap} {own : String} {a0 : UInt64} {r : Int32}  (hF : CallFix p m c cc nL s args ALLW own) (hsz : ls.size = nL) (hK : va_K D vwCl (tyL cy) s) (hP : SP D cy S H) (hS : va_S A0 H0 H locs) (hk : Cond.methodLink own index yJxe99ae_isNaN_b9ae7 ∈ ALLW) (hR : rm_Jxe99ae_isNaN_b9ae7.frames + 1 ≤ R.frames ∧ 8 + (2 + 11) + rm_Jxe99ae_isNaN_b9ae7.locals ≤ R.locals) (h : f_Jxe99ae_isNaN_b9ae7 a0 = some r) (hW : (rest.map fun v => v.category).sum ≤ 8) (hdg : decode cc pc = .ok (.invokestatic index, 3)) (hf : cells + 0 ≤ R.cells ∧ slots + 0 ≤ R.slots)
    (kk : ∀ (H1 : Heap) (locs1 : List Loc), SP D cy S H1 → va_S A0 H0 H1 locs1 → W p l e R s m args below meth c H1 locs1 (cells + 0) (slots + 0) Q (F0 m (pc + 3) ls (.int r :: rest))) : W p l e R s m args below meth c H locs cells slots Q (F0 m pc ls (.double a0 :: rest)) := by
  exact k_iSp (As := [.double a0]) hF hsz (m_Jxe99ae_isNaN_b9ae7 l D cy S a0 r h) (cwS_of (n := 1) hF.2.2.2.2 hk wd_1263 wd_84 wd_1264 rfl rfl (by decide +kernel) hR) rfl hK hP hS hW rfl hdg hf kk
/-- java/lang/Double.doubleToLongBits(D)J -/
def f_Jxe99ae_doubleToLongBits_ccdee (a0 : UInt64) : Option (Int64) :=
  (f_Jxe99ae_isNaN_b9ae7 a0).bind fun x2 =>
  if x2 = 0 then
    some (UInt64.toInt64 a0)
  else
    some 9221120237041090560
abbrev rm_Jxe99ae_doubleToLongBits_ccdee : Room := { frames := 1, cells := 0, slots := 0, locals := 21 }
set_option maxHeartbeats 4000000 in
set_option maxRecDepth 100000 in
theorem m_Jxe99ae_doubleToLongBits_ccdee (l : Launch) (D : va_G) (cy : Nat → ClassId) (S : St) (a0 : UInt64) (r : Int64) (h : f_Jxe99ae_doubleToLongBits_ccdee a0 = some r) : Met l yJxe99ae_doubleToLongBits_ccdee (wsA yJxe99ae_doubleToLongBits_ccdee cJxe99ae_doubleToLongBits_ccdee 2 (some .long)) rm_Jxe99ae_doubleToLongBits_ccdee (va_Pc [.double a0] (PS D cy S)) (va_Ql (fun r' (_ : Unit) => r' = r) (fun _ _ => True) noA) 0 0 noA := by
  refine Met.ofW (cc := cJxe99ae_doubleToLongBits_ccdee) (maxL := 2) (ret := (some .long)) (by decide) rfl ?_
  intro p e s m args below meth c s₁ B hml hv
  obtain ⟨rfl, hP, hK⟩ := hv
  have hx := B.exec
  have hb := B.bytes
  have hr := B.returns
  have hts9 := atoms_spec (ws := wsA yJxe99ae_doubleToLongBits_ccdee cJxe99ae_doubleToLongBits_ccdee 2 (some .long)) B.pre
  have hts : ∀ w ∈ ALLW, w.before _ s = true := fun w h => hts9 w (List.mem_cons_of_mem _ h)
  have hown : s.vm.findClass RJxe99ae = some m.cls := findClass_of_methodNamed B.named
  have hlocks := B.notSynchronized
  have hS : va_S noA s.heap s.heap [] := va_S.rf
  have hl := lv_entry [.double a0] (n := 2) (Nat.le_of_ble_eq_true rfl)
  rw [lg_entry_eq]
  generalize (lg_sl [.double a0] ++ List.replicate (2 - (lg_sl [.double a0]).length) Slot.unset).toArray = ls at hl ⊢
  have hl : lv_has ls 2 [(0, .double a0)] := hl
  rw [f_Jxe99ae_doubleToLongBits_ccdee] at h
  refine lv_dload_n hx hb dJxe99ae_doubleToLongBits_ccdee_0 rfl (lv_at hl 0 rfl) ?_
  replace h := bd h
  obtain ⟨x2, q1, h⟩ := h
  refine c_Jxe99ae_isNaN_b9ae7 ⟨hx, hb, hml, hown, hts⟩ hl.1 hK hP hS wd_1262 ⟨(Nat.le_of_ble_eq_true rfl), (Nat.le_of_ble_eq_true rfl)⟩ q1 (Nat.le_of_ble_eq_true rfl) dJxe99ae_doubleToLongBits_ccdee_1 ⟨(Nat.le_of_ble_eq_true rfl), (Nat.le_of_ble_eq_true rfl)⟩ (fun H locs hP hS => ?_)
  refine lv_if_ne (tgt := 12) hx hb dJxe99ae_doubleToLongBits_ccdee_4 (by decide) (fun c3 => ?_) (fun c3 => ?_)
  · replace h := ifn c3 h
    refine lv_ldc2 hx hb hown (hts _ wd_1268) dJxe99ae_doubleToLongBits_ccdee_12 ?_
    cases h
    exact e_lp hx hb hlocks hr hS (Nat.le_of_ble_eq_true rfl) (Nat.le_of_ble_eq_true rfl) dJxe99ae_doubleToLongBits_ccdee_15
  · replace h := ifp c3 h
    refine lv_dload_n hx hb dJxe99ae_doubleToLongBits_ccdee_7 rfl (lv_at hl 0 rfl) ?_
    refine vn_d2l hx hb (hml.trans hl.1.symm) hown (hts _ wd_1265) (hts _ wd_1267) (hts _ wd_1266) (hts _ wd_84) (Nat.le_of_ble_eq_true rfl) (Nat.le_of_ble_eq_true rfl) dJxe99ae_doubleToLongBits_ccdee_8 ?_
    cases h
    exact e_lp hx hb hlocks hr hS (Nat.le_of_ble_eq_true rfl) (Nat.le_of_ble_eq_true rfl) dJxe99ae_doubleToLongBits_ccdee_11
set_option maxRecDepth 100000 in
theorem c_Jxe99ae_doubleToLongBits_ccdee {p : Program} {l : Launch} {e : Env} {R : Room} {s : State} {m : MethodId} {args : Array Value} {below : List Frame} {meth : Method} {c : Code} {H : Heap} {locs : List Loc} {cells slots : Nat} {Q : State → Prop} {cc : ByteArray} {pc index nL : Nat} {ls : Array Slot} {rest : List Value} {D : va_G} {cy : Nat → ClassId} {A0 : Nat → Prop} {S : St} {H0 : Heap} {own : String} {a0 : UInt64} {r : Int64}  (hF : CallFix p m c cc nL s args ALLW own) (hsz : ls.size = nL) (hK : va_K D vwCl (tyL cy) s) (hP : SP D cy S H) (hS : va_S A0 H0 H locs) (hk : Cond.methodLink own index yJxe99ae_doubleToLongBits_ccdee ∈ ALLW) (hR : rm_Jxe99ae_doubleToLongBits_ccdee.frames + 1 ≤ R.frames ∧ 8 + (2 + 11) + rm_Jxe99ae_doubleToLongBits_ccdee.locals ≤ R.locals) (h : f_Jxe99ae_doubleToLongBits_ccdee a0 = some r) (hW : (rest.map fun v => v.category).sum ≤ 8) (hdg : decode cc pc = .ok (.invokestatic index, 3)) (hf : cells + 0 ≤ R.cells ∧ slots + 0 ≤ R.slots)
    (kk : ∀ (H1 : Heap) (locs1 : List Loc), SP D cy S H1 → va_S A0 H0 H1 locs1 → W p l e R s m args below meth c H1 locs1 (cells + 0) (slots + 0) Q (F0 m (pc + 3) ls (.long r :: rest))) : W p l e R s m args below meth c H locs cells slots Q (F0 m pc ls (.double a0 :: rest)) := by
  exact k_lSp (As := [.double a0]) hF hsz (m_Jxe99ae_doubleToLongBits_ccdee l D cy S a0 r h) (cwS_of (n := 1) hF.2.2.2.2 hk wd_1260 wd_84 wd_1261 rfl rfl (by decide +kernel) hR) rfl hK hP hS hW rfl hdg hf kk
