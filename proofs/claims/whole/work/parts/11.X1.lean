/-- VowBlocks$Codes.widthFor(I)I -/
def f_X1_widthFor_L2 (y2_0 : Int32) : Nat → Int32 →  Option (Int32)
  | 0, _ => none
  | fu + 1, y2_1 =>
    if 9 ≤ y2_1 then
      some y2_1
    else
      if y2_0 ≤ (1 <<< (y2_1 &&& 31)) then
        some y2_1
      else
        f_X1_widthFor_L2 y2_0 fu (y2_1 + 1)
def f_X1_widthFor (a0 : Int32) : Option (Int32) :=
  (f_X1_widthFor_L2 a0 FU 0).bind fun z1 =>
  some z1
abbrev rm_X1_widthFor : Room := { frames := 0, cells := 0, slots := 0, locals := 0 }
set_option maxHeartbeats 4000000 in
set_option maxRecDepth 100000 in
theorem m_X1_widthFor (l : Launch) (D : va_G) (cy : Nat → ClassId) (S : St) (a0 : Int32) (r : Int32) (h : f_X1_widthFor a0 = some r) : Met l yX1_widthFor (wsA yX1_widthFor cX1_widthFor 2 (some .int)) rm_X1_widthFor (va_Pc [.int a0] (PS D cy S)) (va_Qi (fun r' (_ : Unit) => r' = r) (fun _ _ => True) noA) 0 0 noA := by
  refine Met.ofW (cc := cX1_widthFor) (maxL := 2) (ret := (some .int)) (by decide) rfl ?_
  intro p e s m args below meth c s₁ B hml hv
  obtain ⟨rfl, hP, hK⟩ := hv
  have hx := B.exec
  have hb := B.bytes
  have hr := B.returns
  have hts9 := atoms_spec (ws := wsA yX1_widthFor cX1_widthFor 2 (some .int)) B.pre
  have hts : ∀ w ∈ ALLW, w.before _ s = true := fun w h => hts9 w (List.mem_cons_of_mem _ h)
  have hown : s.vm.findClass RX1 = some m.cls := findClass_of_methodNamed B.named
  have hlocks := B.notSynchronized
  have hS : va_S noA s.heap s.heap [] := va_S.rf
  have hl := lv_entry [.int a0] (n := 2) (Nat.le_of_ble_eq_true rfl)
  rw [lg_entry_eq]
  generalize (lg_sl [.int a0] ++ List.replicate (2 - (lg_sl [.int a0]).length) Slot.unset).toArray = ls at hl ⊢
  have hl : lv_has ls 2 [(0, .int a0)] := hl
  rw [f_X1_widthFor] at h
  refine lv_iconst (v := 0) hx hb dX1_widthFor_0 (by decide) ?_
  refine lv_istore_n (lv' := [(1, .int 0), (0, .int a0)]) hx hb dX1_widthFor_1 rfl hl (by decide) rfl (fun ls hl => ?_)
  have L2 : ∀ (y2_0 : Int32) (fu : Nat) (y2_1 : Int32) (res : Int32), f_X1_widthFor_L2 y2_0 fu y2_1 = some res → ∀ (H : Heap) (locs : List Loc) (ls : Array Slot), SP D cy S H → va_S noA s.heap H locs → lv_has ls 2 [(0, .int y2_0), (1, .int y2_1)] → (∀ (H : Heap) (locs : List Loc) (ls : Array Slot), SP D cy S H → va_S noA s.heap H locs → lv_has ls 2 [(1, .int res)] → W p l e rm_X1_widthFor s m ([.int a0] : List Value).toArray below meth c H locs 0 0 (MQ below (va_Qi (fun r' (_ : Unit) => r' = r) (fun _ _ => True) noA) ([.int a0] : List Value).toArray s 0 0 noA) (F0 m 21 ls [])) → W p l e rm_X1_widthFor s m ([.int a0] : List Value).toArray below meth c H locs 0 0 (MQ below (va_Qi (fun r' (_ : Unit) => r' = r) (fun _ _ => True) noA) ([.int a0] : List Value).toArray s 0 0 noA) (F0 m 2 ls []) := by
    intro y2_0 fu
    induction fu with
    | zero =>
      intro y2_1 res h
      rw [f_X1_widthFor_L2] at h
      cases h
    | succ fu ih =>
      intro y2_1 res h H locs ls hP hS hl hexit
      rw [f_X1_widthFor_L2] at h
      refine lv_iload_n hx hb dX1_widthFor_2 rfl (lv_at hl 1 rfl) ?_
      refine lv_bipush (v := 9) hx hb dX1_widthFor_3 (by decide) ?_
      refine lv_icmp_ge (tgt := 21) hx hb dX1_widthFor_5 (by decide) (fun c3 => ?_) (fun c3 => ?_)
      · replace h := ifp c3 h
        cases h
        exact hexit _ _ _ hP hS (lv_sub hl [1] rfl)
      · replace h := ifn c3 h
        refine lv_iconst (v := 1) hx hb dX1_widthFor_8 (by decide) ?_
        refine lv_iload_n hx hb dX1_widthFor_9 rfl (lv_at hl 1 rfl) ?_
        refine lv_ishl hx hb dX1_widthFor_10 ?_
        refine lv_iload_n hx hb dX1_widthFor_11 rfl (lv_at hl 0 rfl) ?_
        refine lv_icmp_ge (tgt := 21) hx hb dX1_widthFor_12 (by decide) (fun c4 => ?_) (fun c4 => ?_)
        · replace h := ifp c4 h
          cases h
          exact hexit _ _ _ hP hS (lv_sub hl [1] rfl)
        · replace h := ifn c4 h
          refine lv_iinc (v := (y2_1 + 1)) (lv' := [(1, .int (y2_1 + 1)), (0, .int y2_0)]) hx hb dX1_widthFor_15 hl (k := 1) rfl rfl (by decide) rfl (fun ls hl => ?_)
          refine lv_goto (tgt := 2) hx hb dX1_widthFor_18 (by decide) ?_
          exact ih (y2_1 + 1) _ h _ _ _ hP hS (lv_sub hl [1, 0] rfl) hexit
  replace h := bd h
  obtain ⟨z1, q5, h⟩ := h
  refine L2 a0 FU 0 z1 q5 _ _ _ hP hS (lv_sub hl [1, 0] rfl) (fun H locs ls hP hS hl => ?_)
  refine lv_iload_n hx hb dX1_widthFor_21 rfl (lv_at hl 0 rfl) ?_
  cases h
  exact e_ip hx hb hlocks hr hS (Nat.le_of_ble_eq_true rfl) (Nat.le_of_ble_eq_true rfl) dX1_widthFor_22
set_option maxRecDepth 100000 in
theorem c_X1_widthFor {p : Program} {l : Launch} {e : Env} {R : Room} {s : State} {m : MethodId} {args : Array Value} {below : List Frame} {meth : Method} {c : Code} {H : Heap} {locs : List Loc} {cells slots : Nat} {Q : State → Prop} {cc : ByteArray} {pc index nL : Nat} {ls : Array Slot} {rest : List Value} {D : va_G} {cy : Nat → ClassId} {A0 : Nat → Prop} {S : St} {H0 : Heap} {own : String} {a0 : Int32} {r : Int32}  (hF : CallFix p m c cc nL s args ALLW own) (hsz : ls.size = nL) (hK : va_K D vwCl (tyL cy) s) (hP : SP D cy S H) (hS : va_S A0 H0 H locs) (hk : Cond.methodLink own index yX1_widthFor ∈ ALLW) (hR : rm_X1_widthFor.frames + 1 ≤ R.frames ∧ 8 + (2 + 11) + rm_X1_widthFor.locals ≤ R.locals) (h : f_X1_widthFor a0 = some r) (hW : (rest.map fun v => v.category).sum ≤ 8) (hdg : decode cc pc = .ok (.invokestatic index, 3)) (hf : cells + 0 ≤ R.cells ∧ slots + 0 ≤ R.slots)
    (kk : ∀ (H1 : Heap) (locs1 : List Loc), SP D cy S H1 → va_S A0 H0 H1 locs1 → W p l e R s m args below meth c H1 locs1 (cells + 0) (slots + 0) Q (F0 m (pc + 3) ls (.int r :: rest))) : W p l e R s m args below meth c H locs cells slots Q (F0 m pc ls (.int a0 :: rest)) := by
  exact k_iSp (As := [.int a0]) hF hsz (m_X1_widthFor l D cy S a0 r h) (cwS_of (n := 1) hF.2.2.2.2 hk wd_300 wd_81 wd_301 rfl rfl (by decide +kernel) hR) rfl hK hP hS hW rfl hdg hf kk
/-- VowBlocks$Codes.bits(LVowBlocks$Row;I)I -/
def f_X1_bits (S : St) (a0 : Nat) (a1 : Int32) : Option (Int32) :=
  (oO S a0 3).bind fun _ =>
  (f_X4_size S a0).bind fun x3 =>
  if a1 = 0 then
    some (8 * x3)
  else
    if a1 = 1 then
      (oO S a0 3).bind fun _ =>
      (f_X4_runsAmong S a0 x3).bind fun x17 =>
      some (13 * x17)
    else
      if a1 = 2 then
        (oO S a0 3).bind fun _ =>
        (f_X4_differentValues S a0).bind fun x20 =>
        (f_X1_widthFor x20).bind fun x22 =>
        some ((5 + (8 * x20)) + (x3 * x22))
      else
        if a1 = 3 then
          (oO S a0 3).bind fun _ =>
          (f_X4_spanOfSteps S a0).bind fun x25 =>
          (f_X1_widthFor x25).bind fun x27 =>
          some (12 + ((x3 - 1) * x27))
        else
          if a1 = 4 then
            (oO S a0 3).bind fun _ =>
            (f_X4_mostTimes S a0).bind fun x30 =>
            some ((8 + x3) + (8 * (x3 - x30)))
          else
            (oO S a0 3).bind fun _ =>
            (f_X4_span S a0).bind fun x11 =>
            (f_X1_widthFor x11).bind fun x13 =>
            some (12 + (x3 * x13))
abbrev rm_X1_bits : Room := { frames := 1, cells := 0, slots := 0, locals := 24 }
set_option maxHeartbeats 4000000 in
set_option maxRecDepth 100000 in
theorem m_X1_bits (l : Launch) (D : va_G) (cy : Nat → ClassId) (S : St) (a0 : Nat) (a1 : Int32) (r : Int32) (h : f_X1_bits S a0 a1 = some r) : Met l yX1_bits (wsA yX1_bits cX1_bits 4 (some .int)) rm_X1_bits (va_Pc [.ref a0, .int a1] (PS D cy S)) (va_Qi (fun r' (_ : Unit) => r' = r) (fun _ _ => True) noA) 0 0 noA := by
  refine Met.ofW (cc := cX1_bits) (maxL := 4) (ret := (some .int)) (by decide) rfl ?_
  intro p e s m args below meth c s₁ B hml hv
  obtain ⟨rfl, hP, hK⟩ := hv
  have hx := B.exec
  have hb := B.bytes
  have hr := B.returns
  have hts9 := atoms_spec (ws := wsA yX1_bits cX1_bits 4 (some .int)) B.pre
  have hts : ∀ w ∈ ALLW, w.before _ s = true := fun w h => hts9 w (List.mem_cons_of_mem _ h)
  have hown : s.vm.findClass RX1 = some m.cls := findClass_of_methodNamed B.named
  have hlocks := B.notSynchronized
  have hS : va_S noA s.heap s.heap [] := va_S.rf
  have hl := lv_entry [.ref a0, .int a1] (n := 4) (Nat.le_of_ble_eq_true rfl)
  rw [lg_entry_eq]
  generalize (lg_sl [.ref a0, .int a1] ++ List.replicate (4 - (lg_sl [.ref a0, .int a1]).length) Slot.unset).toArray = ls at hl ⊢
  have hl : lv_has ls 4 [(0, .ref a0), (1, .int a1)] := hl
  rw [f_X1_bits] at h
  refine lv_aload_n hx hb dX1_bits_0 rfl (lv_at hl 0 rfl) ?_
  replace h := bd h
  obtain ⟨_, q1, h⟩ := h
  replace h := bd h
  obtain ⟨x3, q2, h⟩ := h
  refine c_X4_size ⟨hx, hb, hml, hown, hts⟩ hl.1 hK hP hS wd_290 ⟨(Nat.le_of_ble_eq_true rfl), (Nat.le_of_ble_eq_true rfl)⟩ q2 q1 (Nat.le_of_ble_eq_true rfl) dX1_bits_1 ⟨(Nat.le_of_ble_eq_true rfl), (Nat.le_of_ble_eq_true rfl)⟩ (fun H locs hP hS => ?_)
  refine lv_istore_n (lv' := [(2, .int x3), (0, .ref a0), (1, .int a1)]) hx hb dX1_bits_4 rfl hl (by decide) rfl (fun ls hl => ?_)
  refine lv_iload_n hx hb dX1_bits_5 rfl (lv_at hl 2 rfl) ?_
  by_cases c4 : a1 = 0
  · replace h := ifp c4 h
    refine lv_tableIn (off := 34) (tgt := 40) hx hb dX1_bits_6 (by rw [c4]; decide) (by rw [c4]; decide) (by rw [c4]; rfl) (by decide) ?_
    refine lv_bipush (v := 8) hx hb dX1_bits_40 (by decide) ?_
    refine lv_iload_n hx hb dX1_bits_42 rfl (lv_at hl 0 rfl) ?_
    refine lv_imul hx hb dX1_bits_43 ?_
    cases h
    exact e_ip hx hb hlocks hr hS (Nat.le_of_ble_eq_true rfl) (Nat.le_of_ble_eq_true rfl) dX1_bits_44
  · replace h := ifn c4 h
    by_cases c5 : a1 = 1
    · replace h := ifp c5 h
      refine lv_tableIn (off := 39) (tgt := 45) hx hb dX1_bits_6 (by rw [c5]; decide) (by rw [c5]; decide) (by rw [c5]; rfl) (by decide) ?_
      refine lv_bipush (v := 13) hx hb dX1_bits_45 (by decide) ?_
      refine lv_aload_n hx hb dX1_bits_47 rfl (lv_at hl 1 rfl) ?_
      refine lv_iload_n hx hb dX1_bits_48 rfl (lv_at hl 0 rfl) ?_
      replace h := bd h
      obtain ⟨_, q15, h⟩ := h
      replace h := bd h
      obtain ⟨x17, q16, h⟩ := h
      refine c_X4_runsAmong ⟨hx, hb, hml, hown, hts⟩ hl.1 hK hP hS wd_291 ⟨(Nat.le_of_ble_eq_true rfl), (Nat.le_of_ble_eq_true rfl)⟩ q16 q15 (Nat.le_of_ble_eq_true rfl) dX1_bits_49 ⟨(Nat.le_of_ble_eq_true rfl), (Nat.le_of_ble_eq_true rfl)⟩ (fun H locs hP hS => ?_)
      refine lv_imul hx hb dX1_bits_52 ?_
      cases h
      exact e_ip hx hb hlocks hr hS (Nat.le_of_ble_eq_true rfl) (Nat.le_of_ble_eq_true rfl) dX1_bits_53
    · replace h := ifn c5 h
      by_cases c6 : a1 = 2
      · replace h := ifp c6 h
        refine lv_tableIn (off := 48) (tgt := 54) hx hb dX1_bits_6 (by rw [c6]; decide) (by rw [c6]; decide) (by rw [c6]; rfl) (by decide) ?_
        refine lv_aload_n hx hb dX1_bits_54 rfl (lv_at hl 1 rfl) ?_
        replace h := bd h
        obtain ⟨_, q18, h⟩ := h
        replace h := bd h
        obtain ⟨x20, q19, h⟩ := h
        refine c_X4_differentValues ⟨hx, hb, hml, hown, hts⟩ hl.1 hK hP hS wd_295 ⟨(Nat.le_of_ble_eq_true rfl), (Nat.le_of_ble_eq_true rfl)⟩ q19 q18 (Nat.le_of_ble_eq_true rfl) dX1_bits_55 ⟨(Nat.le_of_ble_eq_true rfl), (Nat.le_of_ble_eq_true rfl)⟩ (fun H locs hP hS => ?_)
        refine lv_istore_n (lv' := [(3, .int x20), (2, .int x3), (0, .ref a0), (1, .int a1)]) hx hb dX1_bits_58 rfl hl (by decide) rfl (fun ls hl => ?_)
        refine lv_iconst (v := 5) hx hb dX1_bits_59 (by decide) ?_
        refine lv_bipush (v := 8) hx hb dX1_bits_60 (by decide) ?_
        refine lv_iload_n hx hb dX1_bits_62 rfl (lv_at hl 0 rfl) ?_
        refine lv_imul hx hb dX1_bits_63 ?_
        refine lv_iadd hx hb dX1_bits_64 ?_
        refine lv_iload_n hx hb dX1_bits_65 rfl (lv_at hl 1 rfl) ?_
        refine lv_iload_n hx hb dX1_bits_66 rfl (lv_at hl 0 rfl) ?_
        replace h := bd h
        obtain ⟨x22, q21, h⟩ := h
        refine c_X1_widthFor ⟨hx, hb, hml, hown, hts⟩ hl.1 hK hP hS wd_299 ⟨(Nat.le_of_ble_eq_true rfl), (Nat.le_of_ble_eq_true rfl)⟩ q21 (Nat.le_of_ble_eq_true rfl) dX1_bits_67 ⟨(Nat.le_of_ble_eq_true rfl), (Nat.le_of_ble_eq_true rfl)⟩ (fun H locs hP hS => ?_)
        refine lv_imul hx hb dX1_bits_70 ?_
        refine lv_iadd hx hb dX1_bits_71 ?_
        cases h
        exact e_ip hx hb hlocks hr hS (Nat.le_of_ble_eq_true rfl) (Nat.le_of_ble_eq_true rfl) dX1_bits_72
      · replace h := ifn c6 h
        by_cases c7 : a1 = 3
        · replace h := ifp c7 h
          refine lv_tableIn (off := 67) (tgt := 73) hx hb dX1_bits_6 (by rw [c7]; decide) (by rw [c7]; decide) (by rw [c7]; rfl) (by decide) ?_
          refine lv_bipush (v := 12) hx hb dX1_bits_73 (by decide) ?_
          refine lv_iload_n hx hb dX1_bits_75 rfl (lv_at hl 0 rfl) ?_
          refine lv_iconst (v := 1) hx hb dX1_bits_76 (by decide) ?_
          refine lv_isub hx hb dX1_bits_77 ?_
          refine lv_aload_n hx hb dX1_bits_78 rfl (lv_at hl 1 rfl) ?_
          replace h := bd h
          obtain ⟨_, q23, h⟩ := h
          replace h := bd h
          obtain ⟨x25, q24, h⟩ := h
          refine c_X4_spanOfSteps ⟨hx, hb, hml, hown, hts⟩ hl.1 hK hP hS wd_302 ⟨(Nat.le_of_ble_eq_true rfl), (Nat.le_of_ble_eq_true rfl)⟩ q24 q23 (Nat.le_of_ble_eq_true rfl) dX1_bits_79 ⟨(Nat.le_of_ble_eq_true rfl), (Nat.le_of_ble_eq_true rfl)⟩ (fun H locs hP hS => ?_)
          replace h := bd h
          obtain ⟨x27, q26, h⟩ := h
          refine c_X1_widthFor ⟨hx, hb, hml, hown, hts⟩ hl.1 hK hP hS wd_299 ⟨(Nat.le_of_ble_eq_true rfl), (Nat.le_of_ble_eq_true rfl)⟩ q26 (Nat.le_of_ble_eq_true rfl) dX1_bits_82 ⟨(Nat.le_of_ble_eq_true rfl), (Nat.le_of_ble_eq_true rfl)⟩ (fun H locs hP hS => ?_)
          refine lv_imul hx hb dX1_bits_85 ?_
          refine lv_iadd hx hb dX1_bits_86 ?_
          cases h
          exact e_ip hx hb hlocks hr hS (Nat.le_of_ble_eq_true rfl) (Nat.le_of_ble_eq_true rfl) dX1_bits_87
        · replace h := ifn c7 h
          by_cases c8 : a1 = 4
          · replace h := ifp c8 h
            refine lv_tableIn (off := 82) (tgt := 88) hx hb dX1_bits_6 (by rw [c8]; decide) (by rw [c8]; decide) (by rw [c8]; rfl) (by decide) ?_
            refine lv_bipush (v := 8) hx hb dX1_bits_88 (by decide) ?_
            refine lv_iload_n hx hb dX1_bits_90 rfl (lv_at hl 0 rfl) ?_
            refine lv_iadd hx hb dX1_bits_91 ?_
            refine lv_bipush (v := 8) hx hb dX1_bits_92 (by decide) ?_
            refine lv_iload_n hx hb dX1_bits_94 rfl (lv_at hl 0 rfl) ?_
            refine lv_aload_n hx hb dX1_bits_95 rfl (lv_at hl 1 rfl) ?_
            replace h := bd h
            obtain ⟨_, q28, h⟩ := h
            replace h := bd h
            obtain ⟨x30, q29, h⟩ := h
            refine c_X4_mostTimes ⟨hx, hb, hml, hown, hts⟩ hl.1 hK hP hS wd_306 ⟨(Nat.le_of_ble_eq_true rfl), (Nat.le_of_ble_eq_true rfl)⟩ q29 q28 (Nat.le_of_ble_eq_true rfl) dX1_bits_96 ⟨(Nat.le_of_ble_eq_true rfl), (Nat.le_of_ble_eq_true rfl)⟩ (fun H locs hP hS => ?_)
            refine lv_isub hx hb dX1_bits_99 ?_
            refine lv_imul hx hb dX1_bits_100 ?_
            refine lv_iadd hx hb dX1_bits_101 ?_
            cases h
            exact e_ip hx hb hlocks hr hS (Nat.le_of_ble_eq_true rfl) (Nat.le_of_ble_eq_true rfl) dX1_bits_102
          · replace h := ifn c8 h
            refine lv_tableOut (tgt := 103) hx hb dX1_bits_6 (tsw_out (x := a1) 0 5 (fun k hk => by match k, hk with | 0, _ => exact c4 | 1, _ => exact c5 | 2, _ => exact c6 | 3, _ => exact c7 | 4, _ => exact c8) (by decide)) (by decide) ?_
            refine lv_bipush (v := 12) hx hb dX1_bits_103 (by decide) ?_
            refine lv_iload_n hx hb dX1_bits_105 rfl (lv_at hl 0 rfl) ?_
            refine lv_aload_n hx hb dX1_bits_106 rfl (lv_at hl 1 rfl) ?_
            replace h := bd h
            obtain ⟨_, q9, h⟩ := h
            replace h := bd h
            obtain ⟨x11, q10, h⟩ := h
            refine c_X4_span ⟨hx, hb, hml, hown, hts⟩ hl.1 hK hP hS wd_310 ⟨(Nat.le_of_ble_eq_true rfl), (Nat.le_of_ble_eq_true rfl)⟩ q10 q9 (Nat.le_of_ble_eq_true rfl) dX1_bits_107 ⟨(Nat.le_of_ble_eq_true rfl), (Nat.le_of_ble_eq_true rfl)⟩ (fun H locs hP hS => ?_)
            replace h := bd h
            obtain ⟨x13, q12, h⟩ := h
            refine c_X1_widthFor ⟨hx, hb, hml, hown, hts⟩ hl.1 hK hP hS wd_299 ⟨(Nat.le_of_ble_eq_true rfl), (Nat.le_of_ble_eq_true rfl)⟩ q12 (Nat.le_of_ble_eq_true rfl) dX1_bits_110 ⟨(Nat.le_of_ble_eq_true rfl), (Nat.le_of_ble_eq_true rfl)⟩ (fun H locs hP hS => ?_)
            refine lv_imul hx hb dX1_bits_113 ?_
            refine lv_iadd hx hb dX1_bits_114 ?_
            cases h
            exact e_ip hx hb hlocks hr hS (Nat.le_of_ble_eq_true rfl) (Nat.le_of_ble_eq_true rfl) dX1_bits_115
set_option maxRecDepth 100000 in
theorem c_X1_bits {p : Program} {l : Launch} {e : Env} {R : Room} {s : State} {m : MethodId} {args : Array Value} {below : List Frame} {meth : Method} {c : Code} {H : Heap} {locs : List Loc} {cells slots : Nat} {Q : State → Prop} {cc : ByteArray} {pc index nL : Nat} {ls : Array Slot} {rest : List Value} {D : va_G} {cy : Nat → ClassId} {A0 : Nat → Prop} {S : St} {H0 : Heap} {own : String} {a0 : Nat} {a1 : Int32} {r : Int32}  (hF : CallFix p m c cc nL s args ALLW own) (hsz : ls.size = nL) (hK : va_K D vwCl (tyL cy) s) (hP : SP D cy S H) (hS : va_S A0 H0 H locs) (hk : Cond.methodLink own index yX1_bits ∈ ALLW) (hR : rm_X1_bits.frames + 1 ≤ R.frames ∧ 8 + (4 + 11) + rm_X1_bits.locals ≤ R.locals) (h : f_X1_bits S a0 a1 = some r) (hW : (rest.map fun v => v.category).sum ≤ 8) (hdg : decode cc pc = .ok (.invokestatic index, 3)) (hf : cells + 0 ≤ R.cells ∧ slots + 0 ≤ R.slots)
    (kk : ∀ (H1 : Heap) (locs1 : List Loc), SP D cy S H1 → va_S A0 H0 H1 locs1 → W p l e R s m args below meth c H1 locs1 (cells + 0) (slots + 0) Q (F0 m (pc + 3) ls (.int r :: rest))) : W p l e R s m args below meth c H locs cells slots Q (F0 m pc ls (.int a1 :: .ref a0 :: rest)) := by
  exact k_iSp (As := [.ref a0, .int a1]) hF hsz (m_X1_bits l D cy S a0 a1 r h) (cwS_of (n := 2) hF.2.2.2.2 hk wd_288 wd_81 wd_289 rfl rfl (by decide +kernel) hR) rfl hK hP hS hW rfl hdg hf kk
/-- VowBlocks$Codes.best(LVowBlocks$Row;)I -/
def f_X1_best_L10 (S10_ : St) (y10_0 : Nat) : Nat → Int32 → Int32 → Int32 →  Option (Int32)
  | 0, _, _, _ => none
  | fu + 1, y10_1, y10_2, y10_3 =>
    if 6 ≤ y10_3 then
      some y10_1
    else
      (f_X1_bits S10_ y10_0 y10_3).bind fun x7 =>
      (
        if y10_2 ≤ x7 then
          some (y10_1, y10_2)
        else
          some (y10_3, x7)
      : Option (Int32 × Int32)).bind fun t8 =>
      f_X1_best_L10 S10_ y10_0 fu t8.1 t8.2 (y10_3 + 1)
def f_X1_best (S : St) (a0 : Nat) : Option (Int32) :=
  (f_X1_bits S a0 0).bind fun x2 =>
  (f_X1_best_L10 S a0 FU 0 x2 1).bind fun z3 =>
  some z3
abbrev rm_X1_best : Room := { frames := 2, cells := 0, slots := 0, locals := 47 }
set_option maxHeartbeats 4000000 in
set_option maxRecDepth 100000 in
theorem m_X1_best (l : Launch) (D : va_G) (cy : Nat → ClassId) (S : St) (a0 : Nat) (r : Int32) (h : f_X1_best S a0 = some r) : Met l yX1_best (wsA yX1_best cX1_best 5 (some .int)) rm_X1_best (va_Pc [.ref a0] (PS D cy S)) (va_Qi (fun r' (_ : Unit) => r' = r) (fun _ _ => True) noA) 0 0 noA := by
  refine Met.ofW (cc := cX1_best) (maxL := 5) (ret := (some .int)) (by decide) rfl ?_
  intro p e s m args below meth c s₁ B hml hv
  obtain ⟨rfl, hP, hK⟩ := hv
  have hx := B.exec
  have hb := B.bytes
  have hr := B.returns
  have hts9 := atoms_spec (ws := wsA yX1_best cX1_best 5 (some .int)) B.pre
  have hts : ∀ w ∈ ALLW, w.before _ s = true := fun w h => hts9 w (List.mem_cons_of_mem _ h)
  have hown : s.vm.findClass RX1 = some m.cls := findClass_of_methodNamed B.named
  have hlocks := B.notSynchronized
  have hS : va_S noA s.heap s.heap [] := va_S.rf
  have hl := lv_entry [.ref a0] (n := 5) (Nat.le_of_ble_eq_true rfl)
  rw [lg_entry_eq]
  generalize (lg_sl [.ref a0] ++ List.replicate (5 - (lg_sl [.ref a0]).length) Slot.unset).toArray = ls at hl ⊢
  have hl : lv_has ls 5 [(0, .ref a0)] := hl
  rw [f_X1_best] at h
  refine lv_iconst (v := 0) hx hb dX1_best_0 (by decide) ?_
  refine lv_istore_n (lv' := [(1, .int 0), (0, .ref a0)]) hx hb dX1_best_1 rfl hl (by decide) rfl (fun ls hl => ?_)
  refine lv_aload_n hx hb dX1_best_2 rfl (lv_at hl 1 rfl) ?_
  refine lv_iconst (v := 0) hx hb dX1_best_3 (by decide) ?_
  replace h := bd h
  obtain ⟨x2, q1, h⟩ := h
  refine c_X1_bits ⟨hx, hb, hml, hown, hts⟩ hl.1 hK hP hS wd_317 ⟨(Nat.le_of_ble_eq_true rfl), (Nat.le_of_ble_eq_true rfl)⟩ q1 (Nat.le_of_ble_eq_true rfl) dX1_best_4 ⟨(Nat.le_of_ble_eq_true rfl), (Nat.le_of_ble_eq_true rfl)⟩ (fun H locs hP hS => ?_)
  refine lv_istore_n (lv' := [(2, .int x2), (1, .int 0), (0, .ref a0)]) hx hb dX1_best_7 rfl hl (by decide) rfl (fun ls hl => ?_)
  refine lv_iconst (v := 1) hx hb dX1_best_8 (by decide) ?_
  refine lv_istore_n (lv' := [(3, .int 1), (2, .int x2), (1, .int 0), (0, .ref a0)]) hx hb dX1_best_9 rfl hl (by decide) rfl (fun ls hl => ?_)
  have L10 : ∀ (S10_ : St) (y10_0 : Nat) (fu : Nat) (y10_1 : Int32) (y10_2 : Int32) (y10_3 : Int32) (res : Int32), f_X1_best_L10 S10_ y10_0 fu y10_1 y10_2 y10_3 = some res → ∀ (H : Heap) (locs : List Loc) (ls : Array Slot), SP D cy S10_ H → va_S noA s.heap H locs → lv_has ls 5 [(0, .ref y10_0), (1, .int y10_1), (2, .int y10_2), (3, .int y10_3)] → (∀ (H : Heap) (locs : List Loc) (ls : Array Slot), SP D cy S10_ H → va_S noA s.heap H locs → lv_has ls 5 [(1, .int res)] → W p l e rm_X1_best s m ([.ref a0] : List Value).toArray below meth c H locs 0 0 (MQ below (va_Qi (fun r' (_ : Unit) => r' = r) (fun _ _ => True) noA) ([.ref a0] : List Value).toArray s 0 0 noA) (F0 m 40 ls [])) → W p l e rm_X1_best s m ([.ref a0] : List Value).toArray below meth c H locs 0 0 (MQ below (va_Qi (fun r' (_ : Unit) => r' = r) (fun _ _ => True) noA) ([.ref a0] : List Value).toArray s 0 0 noA) (F0 m 10 ls []) := by
    intro S10_ y10_0 fu
    induction fu with
    | zero =>
      intro y10_1 y10_2 y10_3 res h
      rw [f_X1_best_L10] at h
      cases h
    | succ fu ih =>
      intro y10_1 y10_2 y10_3 res h H locs ls hP hS hl hexit
      rw [f_X1_best_L10] at h
      refine lv_iload_n hx hb dX1_best_10 rfl (lv_at hl 3 rfl) ?_
      refine lv_bipush (v := 6) hx hb dX1_best_11 (by decide) ?_
      refine lv_icmp_ge (tgt := 40) hx hb dX1_best_13 (by decide) (fun c5 => ?_) (fun c5 => ?_)
      · replace h := ifp c5 h
        cases h
        exact hexit _ _ _ hP hS (lv_sub hl [1] rfl)
      · replace h := ifn c5 h
        refine lv_aload_n hx hb dX1_best_16 rfl (lv_at hl 0 rfl) ?_
        refine lv_iload_n hx hb dX1_best_17 rfl (lv_at hl 3 rfl) ?_
        replace h := bd h
        obtain ⟨x7, q6, h⟩ := h
        refine c_X1_bits ⟨hx, hb, hml, hown, hts⟩ hl.1 hK hP hS wd_317 ⟨(Nat.le_of_ble_eq_true rfl), (Nat.le_of_ble_eq_true rfl)⟩ q6 (Nat.le_of_ble_eq_true rfl) dX1_best_18 ⟨(Nat.le_of_ble_eq_true rfl), (Nat.le_of_ble_eq_true rfl)⟩ (fun H locs hP hS => ?_)
        refine lv_istore (lv' := [(4, .int x7), (0, .ref y10_0), (1, .int y10_1), (2, .int y10_2), (3, .int y10_3)]) hx hb dX1_best_21 hl (by decide) rfl (fun ls hl => ?_)
        refine lv_iload hx hb dX1_best_23 (lv_at hl 0 rfl) ?_
        refine lv_iload_n hx hb dX1_best_25 rfl (lv_at hl 3 rfl) ?_
        replace h := bd h
        obtain ⟨t8, ht, h⟩ := h
        have K8 : ∀ (H : Heap) (locs : List Loc) (ls : Array Slot), SP D cy S10_ H → va_S noA s.heap H locs → lv_has ls 5 [(0, .ref y10_0), (1, .int t8.1), (2, .int t8.2), (3, .int y10_3)] → W p l e rm_X1_best s m ([.ref a0] : List Value).toArray below meth c H locs 0 0 (MQ below (va_Qi (fun r' (_ : Unit) => r' = r) (fun _ _ => True) noA) ([.ref a0] : List Value).toArray s 0 0 noA) (F0 m 34 ls []) := by
          intro H locs ls hP hS hl
          refine lv_iinc (v := (y10_3 + 1)) (lv' := [(3, .int (y10_3 + 1)), (0, .ref y10_0), (1, .int t8.1), (2, .int t8.2)]) hx hb dX1_best_34 hl (k := 3) rfl rfl (by decide) rfl (fun ls hl => ?_)
          refine lv_goto (tgt := 10) hx hb dX1_best_37 (by decide) ?_
          exact ih t8.1 t8.2 (y10_3 + 1) _ h _ _ _ hP hS (lv_sub hl [1, 2, 3, 0] rfl) hexit
        replace h := ht
        refine lv_icmp_ge (tgt := 34) hx hb dX1_best_26 (by decide) (fun c9 => ?_) (fun c9 => ?_)
        · replace h := ifp c9 h
          cases h
          exact K8 _ _ _ hP hS (lv_sub hl [1, 2, 3, 4] rfl)
        · replace h := ifn c9 h
          refine lv_iload hx hb dX1_best_29 (lv_at hl 0 rfl) ?_
          refine lv_istore_n (lv' := [(2, .int x7), (4, .int x7), (0, .ref y10_0), (1, .int y10_1), (3, .int y10_3)]) hx hb dX1_best_31 rfl hl (by decide) rfl (fun ls hl => ?_)
          refine lv_iload_n hx hb dX1_best_32 rfl (lv_at hl 4 rfl) ?_
          refine lv_istore_n (lv' := [(1, .int y10_3), (2, .int x7), (4, .int x7), (0, .ref y10_0), (3, .int y10_3)]) hx hb dX1_best_33 rfl hl (by decide) rfl (fun ls hl => ?_)
          cases h
          exact K8 _ _ _ hP hS (lv_sub hl [3, 0, 1, 4] rfl)
  replace h := bd h
  obtain ⟨z3, q10, h⟩ := h
  refine L10 S a0 FU 0 x2 1 z3 q10 _ _ _ hP hS (lv_sub hl [3, 2, 1, 0] rfl) (fun H locs ls hP hS hl => ?_)
  refine lv_iload_n hx hb dX1_best_40 rfl (lv_at hl 0 rfl) ?_
  cases h
  exact e_ip hx hb hlocks hr hS (Nat.le_of_ble_eq_true rfl) (Nat.le_of_ble_eq_true rfl) dX1_best_41
set_option maxRecDepth 100000 in
theorem c_X1_best {p : Program} {l : Launch} {e : Env} {R : Room} {s : State} {m : MethodId} {args : Array Value} {below : List Frame} {meth : Method} {c : Code} {H : Heap} {locs : List Loc} {cells slots : Nat} {Q : State → Prop} {cc : ByteArray} {pc index nL : Nat} {ls : Array Slot} {rest : List Value} {D : va_G} {cy : Nat → ClassId} {A0 : Nat → Prop} {S : St} {H0 : Heap} {own : String} {a0 : Nat} {r : Int32}  (hF : CallFix p m c cc nL s args ALLW own) (hsz : ls.size = nL) (hK : va_K D vwCl (tyL cy) s) (hP : SP D cy S H) (hS : va_S A0 H0 H locs) (hk : Cond.methodLink own index yX1_best ∈ ALLW) (hR : rm_X1_best.frames + 1 ≤ R.frames ∧ 8 + (5 + 11) + rm_X1_best.locals ≤ R.locals) (h : f_X1_best S a0 = some r) (hW : (rest.map fun v => v.category).sum ≤ 8) (hdg : decode cc pc = .ok (.invokestatic index, 3)) (hf : cells + 0 ≤ R.cells ∧ slots + 0 ≤ R.slots)
    (kk : ∀ (H1 : Heap) (locs1 : List Loc), SP D cy S H1 → va_S A0 H0 H1 locs1 → W p l e R s m args below meth c H1 locs1 (cells + 0) (slots + 0) Q (F0 m (pc + 3) ls (.int r :: rest))) : W p l e R s m args below meth c H locs cells slots Q (F0 m pc ls (.ref a0 :: rest)) := by
  exact k_iSp (As := [.ref a0]) hF hsz (m_X1_best l D cy S a0 r h) (cwS_of (n := 1) hF.2.2.2.2 hk wd_315 wd_81 wd_316 rfl rfl (by decide +kernel) hR) rfl hK hP hS hW rfl hdg hf kk
/-- VowBlocks$Codes.reach(LVowBlocks$Row;I)I -/
def f_X1_reach (S : St) (a0 : Nat) (a1 : Int32) : Option (Int32) :=
  (oO S a0 3).bind fun _ =>
  (f_X4_firstPlace S a0 a1).bind fun x3 =>
  (
    if x3 = (-1) then
      (oO S a0 3).bind fun _ =>
      (f_X4_size S a0).bind fun x8 =>
      some x8
    else
      some (x3 + 1)
  : Option (Int32)).bind fun t4 =>
  some t4
abbrev rm_X1_reach : Room := { frames := 1, cells := 0, slots := 0, locals := 22 }
set_option maxHeartbeats 4000000 in
set_option maxRecDepth 100000 in
theorem m_X1_reach (l : Launch) (D : va_G) (cy : Nat → ClassId) (S : St) (a0 : Nat) (a1 : Int32) (r : Int32) (h : f_X1_reach S a0 a1 = some r) : Met l yX1_reach (wsA yX1_reach cX1_reach 3 (some .int)) rm_X1_reach (va_Pc [.ref a0, .int a1] (PS D cy S)) (va_Qi (fun r' (_ : Unit) => r' = r) (fun _ _ => True) noA) 0 0 noA := by
  refine Met.ofW (cc := cX1_reach) (maxL := 3) (ret := (some .int)) (by decide) rfl ?_
  intro p e s m args below meth c s₁ B hml hv
  obtain ⟨rfl, hP, hK⟩ := hv
  have hx := B.exec
  have hb := B.bytes
  have hr := B.returns
  have hts9 := atoms_spec (ws := wsA yX1_reach cX1_reach 3 (some .int)) B.pre
  have hts : ∀ w ∈ ALLW, w.before _ s = true := fun w h => hts9 w (List.mem_cons_of_mem _ h)
  have hown : s.vm.findClass RX1 = some m.cls := findClass_of_methodNamed B.named
  have hlocks := B.notSynchronized
  have hS : va_S noA s.heap s.heap [] := va_S.rf
  have hl := lv_entry [.ref a0, .int a1] (n := 3) (Nat.le_of_ble_eq_true rfl)
  rw [lg_entry_eq]
  generalize (lg_sl [.ref a0, .int a1] ++ List.replicate (3 - (lg_sl [.ref a0, .int a1]).length) Slot.unset).toArray = ls at hl ⊢
  have hl : lv_has ls 3 [(0, .ref a0), (1, .int a1)] := hl
  rw [f_X1_reach] at h
  refine lv_aload_n hx hb dX1_reach_0 rfl (lv_at hl 0 rfl) ?_
  refine lv_iload_n hx hb dX1_reach_1 rfl (lv_at hl 1 rfl) ?_
  replace h := bd h
  obtain ⟨_, q1, h⟩ := h
  replace h := bd h
  obtain ⟨x3, q2, h⟩ := h
  refine c_X4_firstPlace ⟨hx, hb, hml, hown, hts⟩ hl.1 hK hP hS wd_370 ⟨(Nat.le_of_ble_eq_true rfl), (Nat.le_of_ble_eq_true rfl)⟩ q2 q1 (Nat.le_of_ble_eq_true rfl) dX1_reach_2 ⟨(Nat.le_of_ble_eq_true rfl), (Nat.le_of_ble_eq_true rfl)⟩ (fun H locs hP hS => ?_)
  refine lv_istore_n (lv' := [(2, .int x3), (0, .ref a0), (1, .int a1)]) hx hb dX1_reach_5 rfl hl (by decide) rfl (fun ls hl => ?_)
  refine lv_iload_n hx hb dX1_reach_6 rfl (lv_at hl 0 rfl) ?_
  refine lv_iconst (v := (-1)) hx hb dX1_reach_7 (by decide) ?_
  replace h := bd h
  obtain ⟨t4, ht, h⟩ := h
  have K4 : ∀ (H : Heap) (locs : List Loc) (ls : Array Slot), SP D cy S H → va_S noA s.heap H locs → lv_has ls 3 [] → W p l e rm_X1_reach s m ([.ref a0, .int a1] : List Value).toArray below meth c H locs 0 0 (MQ below (va_Qi (fun r' (_ : Unit) => r' = r) (fun _ _ => True) noA) ([.ref a0, .int a1] : List Value).toArray s 0 0 noA) (F0 m 21 ls [.int t4]) := by
    intro H locs ls hP hS hl
    cases h
    exact e_ip hx hb hlocks hr hS (Nat.le_of_ble_eq_true rfl) (Nat.le_of_ble_eq_true rfl) dX1_reach_21
  replace h := ht
  refine lv_icmp_ne (tgt := 18) hx hb dX1_reach_8 (by decide) (fun c5 => ?_) (fun c5 => ?_)
  · replace h := ifn c5 h
    refine lv_iload_n hx hb dX1_reach_18 rfl (lv_at hl 0 rfl) ?_
    refine lv_iconst (v := 1) hx hb dX1_reach_19 (by decide) ?_
    refine lv_iadd hx hb dX1_reach_20 ?_
    cases h
    exact K4 _ _ _ hP hS (lv_sub hl [] rfl)
  · replace h := ifp c5 h
    refine lv_aload_n hx hb dX1_reach_11 rfl (lv_at hl 1 rfl) ?_
    replace h := bd h
    obtain ⟨_, q6, h⟩ := h
    replace h := bd h
    obtain ⟨x8, q7, h⟩ := h
    refine c_X4_size ⟨hx, hb, hml, hown, hts⟩ hl.1 hK hP hS wd_290 ⟨(Nat.le_of_ble_eq_true rfl), (Nat.le_of_ble_eq_true rfl)⟩ q7 q6 (Nat.le_of_ble_eq_true rfl) dX1_reach_12 ⟨(Nat.le_of_ble_eq_true rfl), (Nat.le_of_ble_eq_true rfl)⟩ (fun H locs hP hS => ?_)
    refine lv_goto (tgt := 21) hx hb dX1_reach_15 (by decide) ?_
    cases h
    exact K4 _ _ _ hP hS (lv_sub hl [] rfl)
set_option maxRecDepth 100000 in
theorem c_X1_reach {p : Program} {l : Launch} {e : Env} {R : Room} {s : State} {m : MethodId} {args : Array Value} {below : List Frame} {meth : Method} {c : Code} {H : Heap} {locs : List Loc} {cells slots : Nat} {Q : State → Prop} {cc : ByteArray} {pc index nL : Nat} {ls : Array Slot} {rest : List Value} {D : va_G} {cy : Nat → ClassId} {A0 : Nat → Prop} {S : St} {H0 : Heap} {own : String} {a0 : Nat} {a1 : Int32} {r : Int32}  (hF : CallFix p m c cc nL s args ALLW own) (hsz : ls.size = nL) (hK : va_K D vwCl (tyL cy) s) (hP : SP D cy S H) (hS : va_S A0 H0 H locs) (hk : Cond.methodLink own index yX1_reach ∈ ALLW) (hR : rm_X1_reach.frames + 1 ≤ R.frames ∧ 8 + (3 + 11) + rm_X1_reach.locals ≤ R.locals) (h : f_X1_reach S a0 a1 = some r) (hW : (rest.map fun v => v.category).sum ≤ 8) (hdg : decode cc pc = .ok (.invokestatic index, 3)) (hf : cells + 0 ≤ R.cells ∧ slots + 0 ≤ R.slots)
    (kk : ∀ (H1 : Heap) (locs1 : List Loc), SP D cy S H1 → va_S A0 H0 H1 locs1 → W p l e R s m args below meth c H1 locs1 (cells + 0) (slots + 0) Q (F0 m (pc + 3) ls (.int r :: rest))) : W p l e R s m args below meth c H locs cells slots Q (F0 m pc ls (.int a1 :: .ref a0 :: rest)) := by
  exact k_iSp (As := [.ref a0, .int a1]) hF hsz (m_X1_reach l D cy S a0 a1 r h) (cwS_of (n := 2) hF.2.2.2.2 hk wd_368 wd_81 wd_369 rfl rfl (by decide +kernel) hR) rfl hK hP hS hW rfl hdg hf kk
/-- VowBlocks$Codes.rowEffort(LVowBlocks$Row;II)I -/
def f_X1_rowEffort (S : St) (a0 : Nat) (a1 : Int32) (a2 : Int32) : Option (Int32) :=
  (
    if a1 = 2 then
      (f_X1_reach S a0 a2).bind fun x7 =>
      some x7
    else
      (oO S a0 3).bind fun _ =>
      (f_X4_size S a0).bind fun x5 =>
      some x5
  : Option (Int32)).bind fun t1 =>
  some t1
abbrev rm_X1_rowEffort : Room := { frames := 2, cells := 0, slots := 0, locals := 44 }
set_option maxHeartbeats 4000000 in
set_option maxRecDepth 100000 in
theorem m_X1_rowEffort (l : Launch) (D : va_G) (cy : Nat → ClassId) (S : St) (a0 : Nat) (a1 : Int32) (a2 : Int32) (r : Int32) (h : f_X1_rowEffort S a0 a1 a2 = some r) : Met l yX1_rowEffort (wsA yX1_rowEffort cX1_rowEffort 3 (some .int)) rm_X1_rowEffort (va_Pc [.ref a0, .int a1, .int a2] (PS D cy S)) (va_Qi (fun r' (_ : Unit) => r' = r) (fun _ _ => True) noA) 0 0 noA := by
  refine Met.ofW (cc := cX1_rowEffort) (maxL := 3) (ret := (some .int)) (by decide) rfl ?_
  intro p e s m args below meth c s₁ B hml hv
  obtain ⟨rfl, hP, hK⟩ := hv
  have hx := B.exec
  have hb := B.bytes
  have hr := B.returns
  have hts9 := atoms_spec (ws := wsA yX1_rowEffort cX1_rowEffort 3 (some .int)) B.pre
  have hts : ∀ w ∈ ALLW, w.before _ s = true := fun w h => hts9 w (List.mem_cons_of_mem _ h)
  have hown : s.vm.findClass RX1 = some m.cls := findClass_of_methodNamed B.named
  have hlocks := B.notSynchronized
  have hS : va_S noA s.heap s.heap [] := va_S.rf
  have hl := lv_entry [.ref a0, .int a1, .int a2] (n := 3) (Nat.le_of_ble_eq_true rfl)
  rw [lg_entry_eq]
  generalize (lg_sl [.ref a0, .int a1, .int a2] ++ List.replicate (3 - (lg_sl [.ref a0, .int a1, .int a2]).length) Slot.unset).toArray = ls at hl ⊢
  have hl : lv_has ls 3 [(0, .ref a0), (1, .int a1), (2, .int a2)] := hl
  rw [f_X1_rowEffort] at h
  refine lv_iload_n hx hb dX1_rowEffort_0 rfl (lv_at hl 1 rfl) ?_
  refine lv_iconst (v := 2) hx hb dX1_rowEffort_1 (by decide) ?_
  replace h := bd h
  obtain ⟨t1, ht, h⟩ := h
  have K1 : ∀ (H : Heap) (locs : List Loc) (ls : Array Slot), SP D cy S H → va_S noA s.heap H locs → lv_has ls 3 [] → W p l e rm_X1_rowEffort s m ([.ref a0, .int a1, .int a2] : List Value).toArray below meth c H locs 0 0 (MQ below (va_Qi (fun r' (_ : Unit) => r' = r) (fun _ _ => True) noA) ([.ref a0, .int a1, .int a2] : List Value).toArray s 0 0 noA) (F0 m 17 ls [.int t1]) := by
    intro H locs ls hP hS hl
    cases h
    exact e_ip hx hb hlocks hr hS (Nat.le_of_ble_eq_true rfl) (Nat.le_of_ble_eq_true rfl) dX1_rowEffort_17
  replace h := ht
  refine lv_icmp_ne (tgt := 13) hx hb dX1_rowEffort_2 (by decide) (fun c2 => ?_) (fun c2 => ?_)
  · replace h := ifn c2 h
    refine lv_aload_n hx hb dX1_rowEffort_13 rfl (lv_at hl 0 rfl) ?_
    replace h := bd h
    obtain ⟨_, q3, h⟩ := h
    replace h := bd h
    obtain ⟨x5, q4, h⟩ := h
    refine c_X4_size ⟨hx, hb, hml, hown, hts⟩ hl.1 hK hP hS wd_290 ⟨(Nat.le_of_ble_eq_true rfl), (Nat.le_of_ble_eq_true rfl)⟩ q4 q3 (Nat.le_of_ble_eq_true rfl) dX1_rowEffort_14 ⟨(Nat.le_of_ble_eq_true rfl), (Nat.le_of_ble_eq_true rfl)⟩ (fun H locs hP hS => ?_)
    cases h
    exact K1 _ _ _ hP hS (lv_sub hl [] rfl)
  · replace h := ifp c2 h
    refine lv_aload_n hx hb dX1_rowEffort_5 rfl (lv_at hl 0 rfl) ?_
    refine lv_iload_n hx hb dX1_rowEffort_6 rfl (lv_at hl 2 rfl) ?_
    replace h := bd h
    obtain ⟨x7, q6, h⟩ := h
    refine c_X1_reach ⟨hx, hb, hml, hown, hts⟩ hl.1 hK hP hS wd_367 ⟨(Nat.le_of_ble_eq_true rfl), (Nat.le_of_ble_eq_true rfl)⟩ q6 (Nat.le_of_ble_eq_true rfl) dX1_rowEffort_7 ⟨(Nat.le_of_ble_eq_true rfl), (Nat.le_of_ble_eq_true rfl)⟩ (fun H locs hP hS => ?_)
    refine lv_goto (tgt := 17) hx hb dX1_rowEffort_10 (by decide) ?_
    cases h
    exact K1 _ _ _ hP hS (lv_sub hl [] rfl)
set_option maxRecDepth 100000 in
theorem c_X1_rowEffort {p : Program} {l : Launch} {e : Env} {R : Room} {s : State} {m : MethodId} {args : Array Value} {below : List Frame} {meth : Method} {c : Code} {H : Heap} {locs : List Loc} {cells slots : Nat} {Q : State → Prop} {cc : ByteArray} {pc index nL : Nat} {ls : Array Slot} {rest : List Value} {D : va_G} {cy : Nat → ClassId} {A0 : Nat → Prop} {S : St} {H0 : Heap} {own : String} {a0 : Nat} {a1 : Int32} {a2 : Int32} {r : Int32}  (hF : CallFix p m c cc nL s args ALLW own) (hsz : ls.size = nL) (hK : va_K D vwCl (tyL cy) s) (hP : SP D cy S H) (hS : va_S A0 H0 H locs) (hk : Cond.methodLink own index yX1_rowEffort ∈ ALLW) (hR : rm_X1_rowEffort.frames + 1 ≤ R.frames ∧ 8 + (3 + 11) + rm_X1_rowEffort.locals ≤ R.locals) (h : f_X1_rowEffort S a0 a1 a2 = some r) (hW : (rest.map fun v => v.category).sum ≤ 8) (hdg : decode cc pc = .ok (.invokestatic index, 3)) (hf : cells + 0 ≤ R.cells ∧ slots + 0 ≤ R.slots)
    (kk : ∀ (H1 : Heap) (locs1 : List Loc), SP D cy S H1 → va_S A0 H0 H1 locs1 → W p l e R s m args below meth c H1 locs1 (cells + 0) (slots + 0) Q (F0 m (pc + 3) ls (.int r :: rest))) : W p l e R s m args below meth c H locs cells slots Q (F0 m pc ls (.int a2 :: .int a1 :: .ref a0 :: rest)) := by
  exact k_iSp (As := [.ref a0, .int a1, .int a2]) hF hsz (m_X1_rowEffort l D cy S a0 a1 a2 r h) (cwS_of (n := 3) hF.2.2.2.2 hk wd_378 wd_81 wd_379 rfl rfl (by decide +kernel) hR) rfl hK hP hS hW rfl hdg hf kk
/-- VowBlocks$Codes.tableEffort(LVowBlocks$Row;II)I -/
def f_X1_tableEffort (S : St) (a0 : Nat) (a1 : Int32) (a2 : Int32) : Option (Int32) :=
  (oO S a0 3).bind fun _ =>
  (f_X4_differentValues S a0).bind fun x3 =>
  (oO S a0 3).bind fun _ =>
  (f_X4_firstPlace S a0 a2).bind fun x6 =>
  (
    if x6 = (-1) then
      some 0
    else
      some 1
  : Option (Int32)).bind fun t7 =>
  (
    if a1 = 1 then
      (f_X1_rowEffort S a0 a1 a2).bind fun x12 =>
      some (x3 + x12)
    else
      if t7 = 0 then
        some x3
      else
        (f_X1_rowEffort S a0 a1 a2).bind fun x15 =>
        some (x3 + x15)
  : Option (Int32)).bind fun t9 =>
  some t9
abbrev rm_X1_tableEffort : Room := { frames := 3, cells := 0, slots := 0, locals := 66 }
set_option maxHeartbeats 4000000 in
set_option maxRecDepth 100000 in
theorem m_X1_tableEffort (l : Launch) (D : va_G) (cy : Nat → ClassId) (S : St) (a0 : Nat) (a1 : Int32) (a2 : Int32) (r : Int32) (h : f_X1_tableEffort S a0 a1 a2 = some r) : Met l yX1_tableEffort (wsA yX1_tableEffort cX1_tableEffort 5 (some .int)) rm_X1_tableEffort (va_Pc [.ref a0, .int a1, .int a2] (PS D cy S)) (va_Qi (fun r' (_ : Unit) => r' = r) (fun _ _ => True) noA) 0 0 noA := by
  refine Met.ofW (cc := cX1_tableEffort) (maxL := 5) (ret := (some .int)) (by decide) rfl ?_
  intro p e s m args below meth c s₁ B hml hv
  obtain ⟨rfl, hP, hK⟩ := hv
  have hx := B.exec
  have hb := B.bytes
  have hr := B.returns
  have hts9 := atoms_spec (ws := wsA yX1_tableEffort cX1_tableEffort 5 (some .int)) B.pre
  have hts : ∀ w ∈ ALLW, w.before _ s = true := fun w h => hts9 w (List.mem_cons_of_mem _ h)
  have hown : s.vm.findClass RX1 = some m.cls := findClass_of_methodNamed B.named
  have hlocks := B.notSynchronized
  have hS : va_S noA s.heap s.heap [] := va_S.rf
  have hl := lv_entry [.ref a0, .int a1, .int a2] (n := 5) (Nat.le_of_ble_eq_true rfl)
  rw [lg_entry_eq]
  generalize (lg_sl [.ref a0, .int a1, .int a2] ++ List.replicate (5 - (lg_sl [.ref a0, .int a1, .int a2]).length) Slot.unset).toArray = ls at hl ⊢
  have hl : lv_has ls 5 [(0, .ref a0), (1, .int a1), (2, .int a2)] := hl
  rw [f_X1_tableEffort] at h
  refine lv_aload_n hx hb dX1_tableEffort_0 rfl (lv_at hl 0 rfl) ?_
  replace h := bd h
  obtain ⟨_, q1, h⟩ := h
  replace h := bd h
  obtain ⟨x3, q2, h⟩ := h
  refine c_X4_differentValues ⟨hx, hb, hml, hown, hts⟩ hl.1 hK hP hS wd_295 ⟨(Nat.le_of_ble_eq_true rfl), (Nat.le_of_ble_eq_true rfl)⟩ q2 q1 (Nat.le_of_ble_eq_true rfl) dX1_tableEffort_1 ⟨(Nat.le_of_ble_eq_true rfl), (Nat.le_of_ble_eq_true rfl)⟩ (fun H locs hP hS => ?_)
  refine lv_istore_n (lv' := [(3, .int x3), (0, .ref a0), (1, .int a1), (2, .int a2)]) hx hb dX1_tableEffort_4 rfl hl (by decide) rfl (fun ls hl => ?_)
  refine lv_aload_n hx hb dX1_tableEffort_5 rfl (lv_at hl 1 rfl) ?_
  refine lv_iload_n hx hb dX1_tableEffort_6 rfl (lv_at hl 3 rfl) ?_
  replace h := bd h
  obtain ⟨_, q4, h⟩ := h
  replace h := bd h
  obtain ⟨x6, q5, h⟩ := h
  refine c_X4_firstPlace ⟨hx, hb, hml, hown, hts⟩ hl.1 hK hP hS wd_370 ⟨(Nat.le_of_ble_eq_true rfl), (Nat.le_of_ble_eq_true rfl)⟩ q5 q4 (Nat.le_of_ble_eq_true rfl) dX1_tableEffort_7 ⟨(Nat.le_of_ble_eq_true rfl), (Nat.le_of_ble_eq_true rfl)⟩ (fun H locs hP hS => ?_)
  refine lv_iconst (v := (-1)) hx hb dX1_tableEffort_10 (by decide) ?_
  replace h := bd h
  obtain ⟨t7, ht, h⟩ := h
  have K7 : ∀ (H : Heap) (locs : List Loc) (ls : Array Slot), SP D cy S H → va_S noA s.heap H locs → lv_has ls 5 [(0, .ref a0), (1, .int a1), (2, .int a2), (3, .int x3)] → W p l e rm_X1_tableEffort s m ([.ref a0, .int a1, .int a2] : List Value).toArray below meth c H locs 0 0 (MQ below (va_Qi (fun r' (_ : Unit) => r' = r) (fun _ _ => True) noA) ([.ref a0, .int a1, .int a2] : List Value).toArray s 0 0 noA) (F0 m 19 ls [.int t7]) := by
    intro H locs ls hP hS hl
    refine lv_istore (lv' := [(4, .int t7), (0, .ref a0), (1, .int a1), (2, .int a2), (3, .int x3)]) hx hb dX1_tableEffort_19 hl (by decide) rfl (fun ls hl => ?_)
    refine lv_iload_n hx hb dX1_tableEffort_21 rfl (lv_at hl 2 rfl) ?_
    refine lv_iconst (v := 1) hx hb dX1_tableEffort_22 (by decide) ?_
    replace h := bd h
    obtain ⟨t9, ht, h⟩ := h
    have K9 : ∀ (H : Heap) (locs : List Loc) (ls : Array Slot), SP D cy S H → va_S noA s.heap H locs → lv_has ls 5 [] → W p l e rm_X1_tableEffort s m ([.ref a0, .int a1, .int a2] : List Value).toArray below meth c H locs 0 0 (MQ below (va_Qi (fun r' (_ : Unit) => r' = r) (fun _ _ => True) noA) ([.ref a0, .int a1, .int a2] : List Value).toArray s 0 0 noA) (F0 m 43 ls [.int t9]) := by
      intro H locs ls hP hS hl
      cases h
      exact e_ip hx hb hlocks hr hS (Nat.le_of_ble_eq_true rfl) (Nat.le_of_ble_eq_true rfl) dX1_tableEffort_43
    replace h := ht
    refine lv_icmp_eq (tgt := 31) hx hb dX1_tableEffort_23 (by decide) (fun c10 => ?_) (fun c10 => ?_)
    · replace h := ifp c10 h
      refine lv_iload_n hx hb dX1_tableEffort_31 rfl (lv_at hl 4 rfl) ?_
      refine lv_aload_n hx hb dX1_tableEffort_32 rfl (lv_at hl 1 rfl) ?_
      refine lv_iload_n hx hb dX1_tableEffort_33 rfl (lv_at hl 2 rfl) ?_
      refine lv_iload_n hx hb dX1_tableEffort_34 rfl (lv_at hl 3 rfl) ?_
      replace h := bd h
      obtain ⟨x12, q11, h⟩ := h
      refine c_X1_rowEffort ⟨hx, hb, hml, hown, hts⟩ hl.1 hK hP hS wd_377 ⟨(Nat.le_of_ble_eq_true rfl), (Nat.le_of_ble_eq_true rfl)⟩ q11 (Nat.le_of_ble_eq_true rfl) dX1_tableEffort_35 ⟨(Nat.le_of_ble_eq_true rfl), (Nat.le_of_ble_eq_true rfl)⟩ (fun H locs hP hS => ?_)
      refine lv_iadd hx hb dX1_tableEffort_38 ?_
      refine lv_goto (tgt := 43) hx hb dX1_tableEffort_39 (by decide) ?_
      cases h
      exact K9 _ _ _ hP hS (lv_sub hl [] rfl)
    · replace h := ifn c10 h
      refine lv_iload hx hb dX1_tableEffort_26 (lv_at hl 0 rfl) ?_
      refine lv_if_eq (tgt := 42) hx hb dX1_tableEffort_28 (by decide) (fun c13 => ?_) (fun c13 => ?_)
      · replace h := ifp c13 h
        refine lv_iload_n hx hb dX1_tableEffort_42 rfl (lv_at hl 4 rfl) ?_
        cases h
        exact K9 _ _ _ hP hS (lv_sub hl [] rfl)
      · replace h := ifn c13 h
        refine lv_iload_n hx hb dX1_tableEffort_31 rfl (lv_at hl 4 rfl) ?_
        refine lv_aload_n hx hb dX1_tableEffort_32 rfl (lv_at hl 1 rfl) ?_
        refine lv_iload_n hx hb dX1_tableEffort_33 rfl (lv_at hl 2 rfl) ?_
        refine lv_iload_n hx hb dX1_tableEffort_34 rfl (lv_at hl 3 rfl) ?_
        replace h := bd h
        obtain ⟨x15, q14, h⟩ := h
        refine c_X1_rowEffort ⟨hx, hb, hml, hown, hts⟩ hl.1 hK hP hS wd_377 ⟨(Nat.le_of_ble_eq_true rfl), (Nat.le_of_ble_eq_true rfl)⟩ q14 (Nat.le_of_ble_eq_true rfl) dX1_tableEffort_35 ⟨(Nat.le_of_ble_eq_true rfl), (Nat.le_of_ble_eq_true rfl)⟩ (fun H locs hP hS => ?_)
        refine lv_iadd hx hb dX1_tableEffort_38 ?_
        refine lv_goto (tgt := 43) hx hb dX1_tableEffort_39 (by decide) ?_
        cases h
        exact K9 _ _ _ hP hS (lv_sub hl [] rfl)
  replace h := ht
  refine lv_icmp_eq (tgt := 18) hx hb dX1_tableEffort_11 (by decide) (fun c8 => ?_) (fun c8 => ?_)
  · replace h := ifp c8 h
    refine lv_iconst (v := 0) hx hb dX1_tableEffort_18 (by decide) ?_
    cases h
    exact K7 _ _ _ hP hS (lv_sub hl [1, 2, 3, 0] rfl)
  · replace h := ifn c8 h
    refine lv_iconst (v := 1) hx hb dX1_tableEffort_14 (by decide) ?_
    refine lv_goto (tgt := 19) hx hb dX1_tableEffort_15 (by decide) ?_
    cases h
    exact K7 _ _ _ hP hS (lv_sub hl [1, 2, 3, 0] rfl)
set_option maxRecDepth 100000 in
theorem c_X1_tableEffort {p : Program} {l : Launch} {e : Env} {R : Room} {s : State} {m : MethodId} {args : Array Value} {below : List Frame} {meth : Method} {c : Code} {H : Heap} {locs : List Loc} {cells slots : Nat} {Q : State → Prop} {cc : ByteArray} {pc index nL : Nat} {ls : Array Slot} {rest : List Value} {D : va_G} {cy : Nat → ClassId} {A0 : Nat → Prop} {S : St} {H0 : Heap} {own : String} {a0 : Nat} {a1 : Int32} {a2 : Int32} {r : Int32}  (hF : CallFix p m c cc nL s args ALLW own) (hsz : ls.size = nL) (hK : va_K D vwCl (tyL cy) s) (hP : SP D cy S H) (hS : va_S A0 H0 H locs) (hk : Cond.methodLink own index yX1_tableEffort ∈ ALLW) (hR : rm_X1_tableEffort.frames + 1 ≤ R.frames ∧ 8 + (5 + 11) + rm_X1_tableEffort.locals ≤ R.locals) (h : f_X1_tableEffort S a0 a1 a2 = some r) (hW : (rest.map fun v => v.category).sum ≤ 8) (hdg : decode cc pc = .ok (.invokestatic index, 3)) (hf : cells + 0 ≤ R.cells ∧ slots + 0 ≤ R.slots)
    (kk : ∀ (H1 : Heap) (locs1 : List Loc), SP D cy S H1 → va_S A0 H0 H1 locs1 → W p l e R s m args below meth c H1 locs1 (cells + 0) (slots + 0) Q (F0 m (pc + 3) ls (.int r :: rest))) : W p l e R s m args below meth c H locs cells slots Q (F0 m pc ls (.int a2 :: .int a1 :: .ref a0 :: rest)) := by
  exact k_iSp (As := [.ref a0, .int a1, .int a2]) hF hsz (m_X1_tableEffort l D cy S a0 a1 a2 r h) (cwS_of (n := 3) hF.2.2.2.2 hk wd_375 wd_81 wd_376 rfl rfl (by decide +kernel) hR) rfl hK hP hS hW rfl hdg hf kk
/-- VowBlocks$Codes.commonEffort(LVowBlocks$Row;II)I -/
def f_X1_commonEffort (S : St) (a0 : Nat) (a1 : Int32) (a2 : Int32) : Option (Int32) :=
  if a1 = 2 then
    (oO S a0 3).bind fun _ =>
    (f_X4_size S a0).bind fun x18 =>
    some x18
  else
    (
      if a1 = 0 then
        (oO S a0 3).bind fun _ =>
        (f_X4_commonValue S a0).bind fun x6 =>
        if a2 = x6 then
          some 1
        else
          some 0
      else
        some 0
    : Option (Int32)).bind fun t2 =>
    (
      if t2 = 0 then
        (oO S a0 3).bind fun _ =>
        (f_X4_size S a0).bind fun x12 =>
        (oO S a0 3).bind fun _ =>
        (f_X4_mostTimes S a0).bind fun x15 =>
        some ((1 + x12) - x15)
      else
        some 1
    : Option (Int32)).bind fun t8 =>
    some t8
abbrev rm_X1_commonEffort : Room := { frames := 2, cells := 0, slots := 0, locals := 47 }
set_option maxHeartbeats 4000000 in
set_option maxRecDepth 100000 in
theorem m_X1_commonEffort (l : Launch) (D : va_G) (cy : Nat → ClassId) (S : St) (a0 : Nat) (a1 : Int32) (a2 : Int32) (r : Int32) (h : f_X1_commonEffort S a0 a1 a2 = some r) : Met l yX1_commonEffort (wsA yX1_commonEffort cX1_commonEffort 4 (some .int)) rm_X1_commonEffort (va_Pc [.ref a0, .int a1, .int a2] (PS D cy S)) (va_Qi (fun r' (_ : Unit) => r' = r) (fun _ _ => True) noA) 0 0 noA := by
  refine Met.ofW (cc := cX1_commonEffort) (maxL := 4) (ret := (some .int)) (by decide) rfl ?_
  intro p e s m args below meth c s₁ B hml hv
  obtain ⟨rfl, hP, hK⟩ := hv
  have hx := B.exec
  have hb := B.bytes
  have hr := B.returns
  have hts9 := atoms_spec (ws := wsA yX1_commonEffort cX1_commonEffort 4 (some .int)) B.pre
  have hts : ∀ w ∈ ALLW, w.before _ s = true := fun w h => hts9 w (List.mem_cons_of_mem _ h)
  have hown : s.vm.findClass RX1 = some m.cls := findClass_of_methodNamed B.named
  have hlocks := B.notSynchronized
  have hS : va_S noA s.heap s.heap [] := va_S.rf
  have hl := lv_entry [.ref a0, .int a1, .int a2] (n := 4) (Nat.le_of_ble_eq_true rfl)
  rw [lg_entry_eq]
  generalize (lg_sl [.ref a0, .int a1, .int a2] ++ List.replicate (4 - (lg_sl [.ref a0, .int a1, .int a2]).length) Slot.unset).toArray = ls at hl ⊢
  have hl : lv_has ls 4 [(0, .ref a0), (1, .int a1), (2, .int a2)] := hl
  rw [f_X1_commonEffort] at h
  refine lv_iload_n hx hb dX1_commonEffort_0 rfl (lv_at hl 1 rfl) ?_
  refine lv_iconst (v := 2) hx hb dX1_commonEffort_1 (by decide) ?_
  refine lv_icmp_ne (tgt := 10) hx hb dX1_commonEffort_2 (by decide) (fun c1 => ?_) (fun c1 => ?_)
  · replace h := ifn c1 h
    refine lv_iload_n hx hb dX1_commonEffort_10 rfl (lv_at hl 1 rfl) ?_
    replace h := bd h
    obtain ⟨t2, ht, h⟩ := h
    have K2 : ∀ (H : Heap) (locs : List Loc) (ls : Array Slot), SP D cy S H → va_S noA s.heap H locs → lv_has ls 4 [(0, .ref a0)] → W p l e rm_X1_commonEffort s m ([.ref a0, .int a1, .int a2] : List Value).toArray below meth c H locs 0 0 (MQ below (va_Qi (fun r' (_ : Unit) => r' = r) (fun _ _ => True) noA) ([.ref a0, .int a1, .int a2] : List Value).toArray s 0 0 noA) (F0 m 27 ls [.int t2]) := by
      intro H locs ls hP hS hl
      refine lv_istore_n (lv' := [(3, .int t2), (0, .ref a0)]) hx hb dX1_commonEffort_27 rfl hl (by decide) rfl (fun ls hl => ?_)
      refine lv_iload_n hx hb dX1_commonEffort_28 rfl (lv_at hl 0 rfl) ?_
      replace h := bd h
      obtain ⟨t8, ht, h⟩ := h
      have K8 : ∀ (H : Heap) (locs : List Loc) (ls : Array Slot), SP D cy S H → va_S noA s.heap H locs → lv_has ls 4 [] → W p l e rm_X1_commonEffort s m ([.ref a0, .int a1, .int a2] : List Value).toArray below meth c H locs 0 0 (MQ below (va_Qi (fun r' (_ : Unit) => r' = r) (fun _ _ => True) noA) ([.ref a0, .int a1, .int a2] : List Value).toArray s 0 0 noA) (F0 m 47 ls [.int t8]) := by
        intro H locs ls hP hS hl
        cases h
        exact e_ip hx hb hlocks hr hS (Nat.le_of_ble_eq_true rfl) (Nat.le_of_ble_eq_true rfl) dX1_commonEffort_47
      replace h := ht
      refine lv_if_eq (tgt := 36) hx hb dX1_commonEffort_29 (by decide) (fun c9 => ?_) (fun c9 => ?_)
      · replace h := ifp c9 h
        refine lv_iconst (v := 1) hx hb dX1_commonEffort_36 (by decide) ?_
        refine lv_aload_n hx hb dX1_commonEffort_37 rfl (lv_at hl 1 rfl) ?_
        replace h := bd h
        obtain ⟨_, q10, h⟩ := h
        replace h := bd h
        obtain ⟨x12, q11, h⟩ := h
        refine c_X4_size ⟨hx, hb, hml, hown, hts⟩ hl.1 hK hP hS wd_290 ⟨(Nat.le_of_ble_eq_true rfl), (Nat.le_of_ble_eq_true rfl)⟩ q11 q10 (Nat.le_of_ble_eq_true rfl) dX1_commonEffort_38 ⟨(Nat.le_of_ble_eq_true rfl), (Nat.le_of_ble_eq_true rfl)⟩ (fun H locs hP hS => ?_)
        refine lv_iadd hx hb dX1_commonEffort_41 ?_
        refine lv_aload_n hx hb dX1_commonEffort_42 rfl (lv_at hl 1 rfl) ?_
        replace h := bd h
        obtain ⟨_, q13, h⟩ := h
        replace h := bd h
        obtain ⟨x15, q14, h⟩ := h
        refine c_X4_mostTimes ⟨hx, hb, hml, hown, hts⟩ hl.1 hK hP hS wd_306 ⟨(Nat.le_of_ble_eq_true rfl), (Nat.le_of_ble_eq_true rfl)⟩ q14 q13 (Nat.le_of_ble_eq_true rfl) dX1_commonEffort_43 ⟨(Nat.le_of_ble_eq_true rfl), (Nat.le_of_ble_eq_true rfl)⟩ (fun H locs hP hS => ?_)
        refine lv_isub hx hb dX1_commonEffort_46 ?_
        cases h
        exact K8 _ _ _ hP hS (lv_sub hl [] rfl)
      · replace h := ifn c9 h
        refine lv_iconst (v := 1) hx hb dX1_commonEffort_32 (by decide) ?_
        refine lv_goto (tgt := 47) hx hb dX1_commonEffort_33 (by decide) ?_
        cases h
        exact K8 _ _ _ hP hS (lv_sub hl [] rfl)
    replace h := ht
    refine lv_if_ne (tgt := 26) hx hb dX1_commonEffort_11 (by decide) (fun c3 => ?_) (fun c3 => ?_)
    · replace h := ifn c3 h
      refine lv_iconst (v := 0) hx hb dX1_commonEffort_26 (by decide) ?_
      cases h
      exact K2 _ _ _ hP hS (lv_sub hl [0] rfl)
    · replace h := ifp c3 h
      refine lv_iload_n hx hb dX1_commonEffort_14 rfl (lv_at hl 2 rfl) ?_
      refine lv_aload_n hx hb dX1_commonEffort_15 rfl (lv_at hl 0 rfl) ?_
      replace h := bd h
      obtain ⟨_, q4, h⟩ := h
      replace h := bd h
      obtain ⟨x6, q5, h⟩ := h
      refine c_X4_commonValue ⟨hx, hb, hml, hown, hts⟩ hl.1 hK hP hS wd_383 ⟨(Nat.le_of_ble_eq_true rfl), (Nat.le_of_ble_eq_true rfl)⟩ q5 q4 (Nat.le_of_ble_eq_true rfl) dX1_commonEffort_16 ⟨(Nat.le_of_ble_eq_true rfl), (Nat.le_of_ble_eq_true rfl)⟩ (fun H locs hP hS => ?_)
      refine lv_icmp_ne (tgt := 26) hx hb dX1_commonEffort_19 (by decide) (fun c7 => ?_) (fun c7 => ?_)
      · replace h := ifn c7 h
        refine lv_iconst (v := 0) hx hb dX1_commonEffort_26 (by decide) ?_
        cases h
        exact K2 _ _ _ hP hS (lv_sub hl [0] rfl)
      · replace h := ifp c7 h
        refine lv_iconst (v := 1) hx hb dX1_commonEffort_22 (by decide) ?_
        refine lv_goto (tgt := 27) hx hb dX1_commonEffort_23 (by decide) ?_
        cases h
        exact K2 _ _ _ hP hS (lv_sub hl [0] rfl)
  · replace h := ifp c1 h
    refine lv_aload_n hx hb dX1_commonEffort_5 rfl (lv_at hl 0 rfl) ?_
    replace h := bd h
    obtain ⟨_, q16, h⟩ := h
    replace h := bd h
    obtain ⟨x18, q17, h⟩ := h
    refine c_X4_size ⟨hx, hb, hml, hown, hts⟩ hl.1 hK hP hS wd_290 ⟨(Nat.le_of_ble_eq_true rfl), (Nat.le_of_ble_eq_true rfl)⟩ q17 q16 (Nat.le_of_ble_eq_true rfl) dX1_commonEffort_6 ⟨(Nat.le_of_ble_eq_true rfl), (Nat.le_of_ble_eq_true rfl)⟩ (fun H locs hP hS => ?_)
    cases h
    exact e_ip hx hb hlocks hr hS (Nat.le_of_ble_eq_true rfl) (Nat.le_of_ble_eq_true rfl) dX1_commonEffort_9
set_option maxRecDepth 100000 in
theorem c_X1_commonEffort {p : Program} {l : Launch} {e : Env} {R : Room} {s : State} {m : MethodId} {args : Array Value} {below : List Frame} {meth : Method} {c : Code} {H : Heap} {locs : List Loc} {cells slots : Nat} {Q : State → Prop} {cc : ByteArray} {pc index nL : Nat} {ls : Array Slot} {rest : List Value} {D : va_G} {cy : Nat → ClassId} {A0 : Nat → Prop} {S : St} {H0 : Heap} {own : String} {a0 : Nat} {a1 : Int32} {a2 : Int32} {r : Int32}  (hF : CallFix p m c cc nL s args ALLW own) (hsz : ls.size = nL) (hK : va_K D vwCl (tyL cy) s) (hP : SP D cy S H) (hS : va_S A0 H0 H locs) (hk : Cond.methodLink own index yX1_commonEffort ∈ ALLW) (hR : rm_X1_commonEffort.frames + 1 ≤ R.frames ∧ 8 + (4 + 11) + rm_X1_commonEffort.locals ≤ R.locals) (h : f_X1_commonEffort S a0 a1 a2 = some r) (hW : (rest.map fun v => v.category).sum ≤ 8) (hdg : decode cc pc = .ok (.invokestatic index, 3)) (hf : cells + 0 ≤ R.cells ∧ slots + 0 ≤ R.slots)
    (kk : ∀ (H1 : Heap) (locs1 : List Loc), SP D cy S H1 → va_S A0 H0 H1 locs1 → W p l e R s m args below meth c H1 locs1 (cells + 0) (slots + 0) Q (F0 m (pc + 3) ls (.int r :: rest))) : W p l e R s m args below meth c H locs cells slots Q (F0 m pc ls (.int a2 :: .int a1 :: .ref a0 :: rest)) := by
  exact k_iSp (As := [.ref a0, .int a1, .int a2]) hF hsz (m_X1_commonEffort l D cy S a0 a1 a2 r h) (cwS_of (n := 3) hF.2.2.2.2 hk wd_381 wd_81 wd_382 rfl rfl (by decide +kernel) hR) rfl hK hP hS hW rfl hdg hf kk
/-- VowBlocks$Codes.frameEffort(LVowBlocks$Row;II)I -/
def f_X1_frameEffort (S : St) (a0 : Nat) (a1 : Int32) (a2 : Int32) : Option (Int32) :=
  (oO S a0 3).bind fun _ =>
  (f_X4_least S a0).bind fun x3 =>
  (
    if a2 < x3 then
      some 1
    else
      (oO S a0 3).bind fun _ =>
      (f_X4_span S a0).bind fun x8 =>
      (f_X1_widthFor x8).bind fun x10 =>
      if a2 < (x3 + (1 <<< (x10 &&& 31))) then
        some 0
      else
        some 1
  : Option (Int32)).bind fun t4 =>
  (
    if a1 = 1 then
      (f_X1_rowEffort S a0 a1 a2).bind fun x15 =>
      some x15
    else
      if t4 = 0 then
        (f_X1_rowEffort S a0 a1 a2).bind fun x18 =>
        some x18
      else
        some 1
  : Option (Int32)).bind fun t12 =>
  some t12
abbrev rm_X1_frameEffort : Room := { frames := 3, cells := 0, slots := 0, locals := 66 }
set_option maxHeartbeats 4000000 in
set_option maxRecDepth 100000 in
theorem m_X1_frameEffort (l : Launch) (D : va_G) (cy : Nat → ClassId) (S : St) (a0 : Nat) (a1 : Int32) (a2 : Int32) (r : Int32) (h : f_X1_frameEffort S a0 a1 a2 = some r) : Met l yX1_frameEffort (wsA yX1_frameEffort cX1_frameEffort 5 (some .int)) rm_X1_frameEffort (va_Pc [.ref a0, .int a1, .int a2] (PS D cy S)) (va_Qi (fun r' (_ : Unit) => r' = r) (fun _ _ => True) noA) 0 0 noA := by
  refine Met.ofW (cc := cX1_frameEffort) (maxL := 5) (ret := (some .int)) (by decide) rfl ?_
  intro p e s m args below meth c s₁ B hml hv
  obtain ⟨rfl, hP, hK⟩ := hv
  have hx := B.exec
  have hb := B.bytes
  have hr := B.returns
  have hts9 := atoms_spec (ws := wsA yX1_frameEffort cX1_frameEffort 5 (some .int)) B.pre
  have hts : ∀ w ∈ ALLW, w.before _ s = true := fun w h => hts9 w (List.mem_cons_of_mem _ h)
  have hown : s.vm.findClass RX1 = some m.cls := findClass_of_methodNamed B.named
  have hlocks := B.notSynchronized
  have hS : va_S noA s.heap s.heap [] := va_S.rf
  have hl := lv_entry [.ref a0, .int a1, .int a2] (n := 5) (Nat.le_of_ble_eq_true rfl)
  rw [lg_entry_eq]
  generalize (lg_sl [.ref a0, .int a1, .int a2] ++ List.replicate (5 - (lg_sl [.ref a0, .int a1, .int a2]).length) Slot.unset).toArray = ls at hl ⊢
  have hl : lv_has ls 5 [(0, .ref a0), (1, .int a1), (2, .int a2)] := hl
  rw [f_X1_frameEffort] at h
  refine lv_aload_n hx hb dX1_frameEffort_0 rfl (lv_at hl 0 rfl) ?_
  replace h := bd h
  obtain ⟨_, q1, h⟩ := h
  replace h := bd h
  obtain ⟨x3, q2, h⟩ := h
  refine c_X4_least ⟨hx, hb, hml, hown, hts⟩ hl.1 hK hP hS wd_398 ⟨(Nat.le_of_ble_eq_true rfl), (Nat.le_of_ble_eq_true rfl)⟩ q2 q1 (Nat.le_of_ble_eq_true rfl) dX1_frameEffort_1 ⟨(Nat.le_of_ble_eq_true rfl), (Nat.le_of_ble_eq_true rfl)⟩ (fun H locs hP hS => ?_)
  refine lv_istore_n (lv' := [(3, .int x3), (0, .ref a0), (1, .int a1), (2, .int a2)]) hx hb dX1_frameEffort_4 rfl hl (by decide) rfl (fun ls hl => ?_)
  refine lv_iload_n hx hb dX1_frameEffort_5 rfl (lv_at hl 3 rfl) ?_
  refine lv_iload_n hx hb dX1_frameEffort_6 rfl (lv_at hl 0 rfl) ?_
  replace h := bd h
  obtain ⟨t4, ht, h⟩ := h
  have K4 : ∀ (H : Heap) (locs : List Loc) (ls : Array Slot), SP D cy S H → va_S noA s.heap H locs → lv_has ls 5 [(0, .ref a0), (1, .int a1), (2, .int a2)] → W p l e rm_X1_frameEffort s m ([.ref a0, .int a1, .int a2] : List Value).toArray below meth c H locs 0 0 (MQ below (va_Qi (fun r' (_ : Unit) => r' = r) (fun _ _ => True) noA) ([.ref a0, .int a1, .int a2] : List Value).toArray s 0 0 noA) (F0 m 30 ls [.int t4]) := by
    intro H locs ls hP hS hl
    refine lv_istore (lv' := [(4, .int t4), (0, .ref a0), (1, .int a1), (2, .int a2)]) hx hb dX1_frameEffort_30 hl (by decide) rfl (fun ls hl => ?_)
    refine lv_iload_n hx hb dX1_frameEffort_32 rfl (lv_at hl 2 rfl) ?_
    refine lv_iconst (v := 1) hx hb dX1_frameEffort_33 (by decide) ?_
    replace h := bd h
    obtain ⟨t12, ht, h⟩ := h
    have K12 : ∀ (H : Heap) (locs : List Loc) (ls : Array Slot), SP D cy S H → va_S noA s.heap H locs → lv_has ls 5 [] → W p l e rm_X1_frameEffort s m ([.ref a0, .int a1, .int a2] : List Value).toArray below meth c H locs 0 0 (MQ below (va_Qi (fun r' (_ : Unit) => r' = r) (fun _ _ => True) noA) ([.ref a0, .int a1, .int a2] : List Value).toArray s 0 0 noA) (F0 m 52 ls [.int t12]) := by
      intro H locs ls hP hS hl
      cases h
      exact e_ip hx hb hlocks hr hS (Nat.le_of_ble_eq_true rfl) (Nat.le_of_ble_eq_true rfl) dX1_frameEffort_52
    replace h := ht
    refine lv_icmp_eq (tgt := 46) hx hb dX1_frameEffort_34 (by decide) (fun c13 => ?_) (fun c13 => ?_)
    · replace h := ifp c13 h
      refine lv_aload_n hx hb dX1_frameEffort_46 rfl (lv_at hl 1 rfl) ?_
      refine lv_iload_n hx hb dX1_frameEffort_47 rfl (lv_at hl 2 rfl) ?_
      refine lv_iload_n hx hb dX1_frameEffort_48 rfl (lv_at hl 3 rfl) ?_
      replace h := bd h
      obtain ⟨x15, q14, h⟩ := h
      refine c_X1_rowEffort ⟨hx, hb, hml, hown, hts⟩ hl.1 hK hP hS wd_377 ⟨(Nat.le_of_ble_eq_true rfl), (Nat.le_of_ble_eq_true rfl)⟩ q14 (Nat.le_of_ble_eq_true rfl) dX1_frameEffort_49 ⟨(Nat.le_of_ble_eq_true rfl), (Nat.le_of_ble_eq_true rfl)⟩ (fun H locs hP hS => ?_)
      cases h
      exact K12 _ _ _ hP hS (lv_sub hl [] rfl)
    · replace h := ifn c13 h
      refine lv_iload hx hb dX1_frameEffort_37 (lv_at hl 0 rfl) ?_
      refine lv_if_eq (tgt := 46) hx hb dX1_frameEffort_39 (by decide) (fun c16 => ?_) (fun c16 => ?_)
      · replace h := ifp c16 h
        refine lv_aload_n hx hb dX1_frameEffort_46 rfl (lv_at hl 1 rfl) ?_
        refine lv_iload_n hx hb dX1_frameEffort_47 rfl (lv_at hl 2 rfl) ?_
        refine lv_iload_n hx hb dX1_frameEffort_48 rfl (lv_at hl 3 rfl) ?_
        replace h := bd h
        obtain ⟨x18, q17, h⟩ := h
        refine c_X1_rowEffort ⟨hx, hb, hml, hown, hts⟩ hl.1 hK hP hS wd_377 ⟨(Nat.le_of_ble_eq_true rfl), (Nat.le_of_ble_eq_true rfl)⟩ q17 (Nat.le_of_ble_eq_true rfl) dX1_frameEffort_49 ⟨(Nat.le_of_ble_eq_true rfl), (Nat.le_of_ble_eq_true rfl)⟩ (fun H locs hP hS => ?_)
        cases h
        exact K12 _ _ _ hP hS (lv_sub hl [] rfl)
      · replace h := ifn c16 h
        refine lv_iconst (v := 1) hx hb dX1_frameEffort_42 (by decide) ?_
        refine lv_goto (tgt := 52) hx hb dX1_frameEffort_43 (by decide) ?_
        cases h
        exact K12 _ _ _ hP hS (lv_sub hl [] rfl)
  replace h := ht
  refine lv_icmp_lt (tgt := 25) hx hb dX1_frameEffort_7 (by decide) (fun c5 => ?_) (fun c5 => ?_)
  · replace h := ifp c5 h
    refine lv_iconst (v := 1) hx hb dX1_frameEffort_25 (by decide) ?_
    refine lv_goto (tgt := 30) hx hb dX1_frameEffort_26 (by decide) ?_
    cases h
    exact K4 _ _ _ hP hS (lv_sub hl [1, 2, 3] rfl)
  · replace h := ifn c5 h
    refine lv_iload_n hx hb dX1_frameEffort_10 rfl (lv_at hl 3 rfl) ?_
    refine lv_iload_n hx hb dX1_frameEffort_11 rfl (lv_at hl 0 rfl) ?_
    refine lv_iconst (v := 1) hx hb dX1_frameEffort_12 (by decide) ?_
    refine lv_aload_n hx hb dX1_frameEffort_13 rfl (lv_at hl 1 rfl) ?_
    replace h := bd h
    obtain ⟨_, q6, h⟩ := h
    replace h := bd h
    obtain ⟨x8, q7, h⟩ := h
    refine c_X4_span ⟨hx, hb, hml, hown, hts⟩ hl.1 hK hP hS wd_310 ⟨(Nat.le_of_ble_eq_true rfl), (Nat.le_of_ble_eq_true rfl)⟩ q7 q6 (Nat.le_of_ble_eq_true rfl) dX1_frameEffort_14 ⟨(Nat.le_of_ble_eq_true rfl), (Nat.le_of_ble_eq_true rfl)⟩ (fun H locs hP hS => ?_)
    replace h := bd h
    obtain ⟨x10, q9, h⟩ := h
    refine c_X1_widthFor ⟨hx, hb, hml, hown, hts⟩ hl.1 hK hP hS wd_299 ⟨(Nat.le_of_ble_eq_true rfl), (Nat.le_of_ble_eq_true rfl)⟩ q9 (Nat.le_of_ble_eq_true rfl) dX1_frameEffort_17 ⟨(Nat.le_of_ble_eq_true rfl), (Nat.le_of_ble_eq_true rfl)⟩ (fun H locs hP hS => ?_)
    refine lv_ishl hx hb dX1_frameEffort_20 ?_
    refine lv_iadd hx hb dX1_frameEffort_21 ?_
    refine lv_icmp_lt (tgt := 29) hx hb dX1_frameEffort_22 (by decide) (fun c11 => ?_) (fun c11 => ?_)
    · replace h := ifp c11 h
      refine lv_iconst (v := 0) hx hb dX1_frameEffort_29 (by decide) ?_
      cases h
      exact K4 _ _ _ hP hS (lv_sub hl [1, 2, 3] rfl)
    · replace h := ifn c11 h
      refine lv_iconst (v := 1) hx hb dX1_frameEffort_25 (by decide) ?_
      refine lv_goto (tgt := 30) hx hb dX1_frameEffort_26 (by decide) ?_
      cases h
      exact K4 _ _ _ hP hS (lv_sub hl [1, 2, 3] rfl)
set_option maxRecDepth 100000 in
theorem c_X1_frameEffort {p : Program} {l : Launch} {e : Env} {R : Room} {s : State} {m : MethodId} {args : Array Value} {below : List Frame} {meth : Method} {c : Code} {H : Heap} {locs : List Loc} {cells slots : Nat} {Q : State → Prop} {cc : ByteArray} {pc index nL : Nat} {ls : Array Slot} {rest : List Value} {D : va_G} {cy : Nat → ClassId} {A0 : Nat → Prop} {S : St} {H0 : Heap} {own : String} {a0 : Nat} {a1 : Int32} {a2 : Int32} {r : Int32}  (hF : CallFix p m c cc nL s args ALLW own) (hsz : ls.size = nL) (hK : va_K D vwCl (tyL cy) s) (hP : SP D cy S H) (hS : va_S A0 H0 H locs) (hk : Cond.methodLink own index yX1_frameEffort ∈ ALLW) (hR : rm_X1_frameEffort.frames + 1 ≤ R.frames ∧ 8 + (5 + 11) + rm_X1_frameEffort.locals ≤ R.locals) (h : f_X1_frameEffort S a0 a1 a2 = some r) (hW : (rest.map fun v => v.category).sum ≤ 8) (hdg : decode cc pc = .ok (.invokestatic index, 3)) (hf : cells + 0 ≤ R.cells ∧ slots + 0 ≤ R.slots)
    (kk : ∀ (H1 : Heap) (locs1 : List Loc), SP D cy S H1 → va_S A0 H0 H1 locs1 → W p l e R s m args below meth c H1 locs1 (cells + 0) (slots + 0) Q (F0 m (pc + 3) ls (.int r :: rest))) : W p l e R s m args below meth c H locs cells slots Q (F0 m pc ls (.int a2 :: .int a1 :: .ref a0 :: rest)) := by
  exact k_iSp (As := [.ref a0, .int a1, .int a2]) hF hsz (m_X1_frameEffort l D cy S a0 a1 a2 r h) (cwS_of (n := 3) hF.2.2.2.2 hk wd_396 wd_81 wd_397 rfl rfl (by decide +kernel) hR) rfl hK hP hS hW rfl hdg hf kk
/-- VowBlocks$Codes.effort(LVowBlocks$Row;III)I -/
def f_X1_effort (S : St) (a0 : Nat) (a1 : Int32) (a2 : Int32) (a3 : Int32) : Option (Int32) :=
  if a1 = 0 then
    (f_X1_rowEffort S a0 a2 a3).bind fun x10 =>
    some x10
  else
    if a1 = 1 then
      (
        if a2 = 2 then
          (f_X1_reach S a0 a3).bind fun x17 =>
          some x17
        else
          (oO S a0 3).bind fun _ =>
          (f_X4_size S a0).bind fun x15 =>
          some x15
      : Option (Int32)).bind fun t11 =>
      (oO S a0 3).bind fun _ =>
      (f_X4_runsAmong S a0 t11).bind fun x20 =>
      some x20
    else
      if a1 = 2 then
        (f_X1_tableEffort S a0 a2 a3).bind fun x22 =>
        some x22
      else
        if a1 = 3 then
          (f_X1_rowEffort S a0 a2 a3).bind fun x24 =>
          some x24
        else
          if a1 = 4 then
            (f_X1_commonEffort S a0 a2 a3).bind fun x26 =>
            some x26
          else
            (f_X1_frameEffort S a0 a2 a3).bind fun x7 =>
            some x7
abbrev rm_X1_effort : Room := { frames := 4, cells := 0, slots := 0, locals := 90 }
set_option maxHeartbeats 4000000 in
set_option maxRecDepth 100000 in
theorem m_X1_effort (l : Launch) (D : va_G) (cy : Nat → ClassId) (S : St) (a0 : Nat) (a1 : Int32) (a2 : Int32) (a3 : Int32) (r : Int32) (h : f_X1_effort S a0 a1 a2 a3 = some r) : Met l yX1_effort (wsA yX1_effort cX1_effort 4 (some .int)) rm_X1_effort (va_Pc [.ref a0, .int a1, .int a2, .int a3] (PS D cy S)) (va_Qi (fun r' (_ : Unit) => r' = r) (fun _ _ => True) noA) 0 0 noA := by
  refine Met.ofW (cc := cX1_effort) (maxL := 4) (ret := (some .int)) (by decide) rfl ?_
  intro p e s m args below meth c s₁ B hml hv
  obtain ⟨rfl, hP, hK⟩ := hv
  have hx := B.exec
  have hb := B.bytes
  have hr := B.returns
  have hts9 := atoms_spec (ws := wsA yX1_effort cX1_effort 4 (some .int)) B.pre
  have hts : ∀ w ∈ ALLW, w.before _ s = true := fun w h => hts9 w (List.mem_cons_of_mem _ h)
  have hown : s.vm.findClass RX1 = some m.cls := findClass_of_methodNamed B.named
  have hlocks := B.notSynchronized
  have hS : va_S noA s.heap s.heap [] := va_S.rf
  have hl := lv_entry [.ref a0, .int a1, .int a2, .int a3] (n := 4) (Nat.le_of_ble_eq_true rfl)
  rw [lg_entry_eq]
  generalize (lg_sl [.ref a0, .int a1, .int a2, .int a3] ++ List.replicate (4 - (lg_sl [.ref a0, .int a1, .int a2, .int a3]).length) Slot.unset).toArray = ls at hl ⊢
  have hl : lv_has ls 4 [(0, .ref a0), (1, .int a1), (2, .int a2), (3, .int a3)] := hl
  rw [f_X1_effort] at h
  refine lv_iload_n hx hb dX1_effort_0 rfl (lv_at hl 1 rfl) ?_
  by_cases c1 : a1 = 0
  · replace h := ifp c1 h
    refine lv_tableIn (off := 71) (tgt := 72) hx hb dX1_effort_1 (by rw [c1]; decide) (by rw [c1]; decide) (by rw [c1]; rfl) (by decide) ?_
    refine lv_aload_n hx hb dX1_effort_72 rfl (lv_at hl 0 rfl) ?_
    refine lv_iload_n hx hb dX1_effort_73 rfl (lv_at hl 2 rfl) ?_
    refine lv_iload_n hx hb dX1_effort_74 rfl (lv_at hl 3 rfl) ?_
    replace h := bd h
    obtain ⟨x10, q9, h⟩ := h
    refine c_X1_rowEffort ⟨hx, hb, hml, hown, hts⟩ hl.1 hK hP hS wd_377 ⟨(Nat.le_of_ble_eq_true rfl), (Nat.le_of_ble_eq_true rfl)⟩ q9 (Nat.le_of_ble_eq_true rfl) dX1_effort_75 ⟨(Nat.le_of_ble_eq_true rfl), (Nat.le_of_ble_eq_true rfl)⟩ (fun H locs hP hS => ?_)
    cases h
    exact e_ip hx hb hlocks hr hS (Nat.le_of_ble_eq_true rfl) (Nat.le_of_ble_eq_true rfl) dX1_effort_78
  · replace h := ifn c1 h
    by_cases c2 : a1 = 1
    · replace h := ifp c2 h
      refine lv_tableIn (off := 35) (tgt := 36) hx hb dX1_effort_1 (by rw [c2]; decide) (by rw [c2]; decide) (by rw [c2]; rfl) (by decide) ?_
      refine lv_aload_n hx hb dX1_effort_36 rfl (lv_at hl 0 rfl) ?_
      refine lv_iload_n hx hb dX1_effort_37 rfl (lv_at hl 2 rfl) ?_
      refine lv_iconst (v := 2) hx hb dX1_effort_38 (by decide) ?_
      replace h := bd h
      obtain ⟨t11, ht, h⟩ := h
      have K11 : ∀ (H : Heap) (locs : List Loc) (ls : Array Slot), SP D cy S H → va_S noA s.heap H locs → lv_has ls 4 [] → W p l e rm_X1_effort s m ([.ref a0, .int a1, .int a2, .int a3] : List Value).toArray below meth c H locs 0 0 (MQ below (va_Qi (fun r' (_ : Unit) => r' = r) (fun _ _ => True) noA) ([.ref a0, .int a1, .int a2, .int a3] : List Value).toArray s 0 0 noA) (F0 m 54 ls [.int t11, .ref a0]) := by
        intro H locs ls hP hS hl
        replace h := bd h
        obtain ⟨_, q18, h⟩ := h
        replace h := bd h
        obtain ⟨x20, q19, h⟩ := h
        refine c_X4_runsAmong ⟨hx, hb, hml, hown, hts⟩ hl.1 hK hP hS wd_291 ⟨(Nat.le_of_ble_eq_true rfl), (Nat.le_of_ble_eq_true rfl)⟩ q19 q18 (Nat.le_of_ble_eq_true rfl) dX1_effort_54 ⟨(Nat.le_of_ble_eq_true rfl), (Nat.le_of_ble_eq_true rfl)⟩ (fun H locs hP hS => ?_)
        cases h
        exact e_ip hx hb hlocks hr hS (Nat.le_of_ble_eq_true rfl) (Nat.le_of_ble_eq_true rfl) dX1_effort_57
      replace h := ht
      refine lv_icmp_ne (tgt := 50) hx hb dX1_effort_39 (by decide) (fun c12 => ?_) (fun c12 => ?_)
      · replace h := ifn c12 h
        refine lv_aload_n hx hb dX1_effort_50 rfl (lv_at hl 0 rfl) ?_
        replace h := bd h
        obtain ⟨_, q13, h⟩ := h
        replace h := bd h
        obtain ⟨x15, q14, h⟩ := h
        refine c_X4_size ⟨hx, hb, hml, hown, hts⟩ hl.1 hK hP hS wd_290 ⟨(Nat.le_of_ble_eq_true rfl), (Nat.le_of_ble_eq_true rfl)⟩ q14 q13 (Nat.le_of_ble_eq_true rfl) dX1_effort_51 ⟨(Nat.le_of_ble_eq_true rfl), (Nat.le_of_ble_eq_true rfl)⟩ (fun H locs hP hS => ?_)
        cases h
        exact K11 _ _ _ hP hS (lv_sub hl [] rfl)
      · replace h := ifp c12 h
        refine lv_aload_n hx hb dX1_effort_42 rfl (lv_at hl 0 rfl) ?_
        refine lv_iload_n hx hb dX1_effort_43 rfl (lv_at hl 3 rfl) ?_
        replace h := bd h
        obtain ⟨x17, q16, h⟩ := h
        refine c_X1_reach ⟨hx, hb, hml, hown, hts⟩ hl.1 hK hP hS wd_367 ⟨(Nat.le_of_ble_eq_true rfl), (Nat.le_of_ble_eq_true rfl)⟩ q16 (Nat.le_of_ble_eq_true rfl) dX1_effort_44 ⟨(Nat.le_of_ble_eq_true rfl), (Nat.le_of_ble_eq_true rfl)⟩ (fun H locs hP hS => ?_)
        refine lv_goto (tgt := 54) hx hb dX1_effort_47 (by decide) ?_
        cases h
        exact K11 _ _ _ hP hS (lv_sub hl [] rfl)
    · replace h := ifn c2 h
      by_cases c3 : a1 = 2
      · replace h := ifp c3 h
        refine lv_tableIn (off := 57) (tgt := 58) hx hb dX1_effort_1 (by rw [c3]; decide) (by rw [c3]; decide) (by rw [c3]; rfl) (by decide) ?_
        refine lv_aload_n hx hb dX1_effort_58 rfl (lv_at hl 0 rfl) ?_
        refine lv_iload_n hx hb dX1_effort_59 rfl (lv_at hl 2 rfl) ?_
        refine lv_iload_n hx hb dX1_effort_60 rfl (lv_at hl 3 rfl) ?_
        replace h := bd h
        obtain ⟨x22, q21, h⟩ := h
        refine c_X1_tableEffort ⟨hx, hb, hml, hown, hts⟩ hl.1 hK hP hS wd_374 ⟨(Nat.le_of_ble_eq_true rfl), (Nat.le_of_ble_eq_true rfl)⟩ q21 (Nat.le_of_ble_eq_true rfl) dX1_effort_61 ⟨(Nat.le_of_ble_eq_true rfl), (Nat.le_of_ble_eq_true rfl)⟩ (fun H locs hP hS => ?_)
        cases h
        exact e_ip hx hb hlocks hr hS (Nat.le_of_ble_eq_true rfl) (Nat.le_of_ble_eq_true rfl) dX1_effort_64
      · replace h := ifn c3 h
        by_cases c4 : a1 = 3
        · replace h := ifp c4 h
          refine lv_tableIn (off := 71) (tgt := 72) hx hb dX1_effort_1 (by rw [c4]; decide) (by rw [c4]; decide) (by rw [c4]; rfl) (by decide) ?_
          refine lv_aload_n hx hb dX1_effort_72 rfl (lv_at hl 0 rfl) ?_
          refine lv_iload_n hx hb dX1_effort_73 rfl (lv_at hl 2 rfl) ?_
          refine lv_iload_n hx hb dX1_effort_74 rfl (lv_at hl 3 rfl) ?_
          replace h := bd h
          obtain ⟨x24, q23, h⟩ := h
          refine c_X1_rowEffort ⟨hx, hb, hml, hown, hts⟩ hl.1 hK hP hS wd_377 ⟨(Nat.le_of_ble_eq_true rfl), (Nat.le_of_ble_eq_true rfl)⟩ q23 (Nat.le_of_ble_eq_true rfl) dX1_effort_75 ⟨(Nat.le_of_ble_eq_true rfl), (Nat.le_of_ble_eq_true rfl)⟩ (fun H locs hP hS => ?_)
          cases h
          exact e_ip hx hb hlocks hr hS (Nat.le_of_ble_eq_true rfl) (Nat.le_of_ble_eq_true rfl) dX1_effort_78
        · replace h := ifn c4 h
          by_cases c5 : a1 = 4
          · replace h := ifp c5 h
            refine lv_tableIn (off := 64) (tgt := 65) hx hb dX1_effort_1 (by rw [c5]; decide) (by rw [c5]; decide) (by rw [c5]; rfl) (by decide) ?_
            refine lv_aload_n hx hb dX1_effort_65 rfl (lv_at hl 0 rfl) ?_
            refine lv_iload_n hx hb dX1_effort_66 rfl (lv_at hl 2 rfl) ?_
            refine lv_iload_n hx hb dX1_effort_67 rfl (lv_at hl 3 rfl) ?_
            replace h := bd h
            obtain ⟨x26, q25, h⟩ := h
            refine c_X1_commonEffort ⟨hx, hb, hml, hown, hts⟩ hl.1 hK hP hS wd_380 ⟨(Nat.le_of_ble_eq_true rfl), (Nat.le_of_ble_eq_true rfl)⟩ q25 (Nat.le_of_ble_eq_true rfl) dX1_effort_68 ⟨(Nat.le_of_ble_eq_true rfl), (Nat.le_of_ble_eq_true rfl)⟩ (fun H locs hP hS => ?_)
            cases h
            exact e_ip hx hb hlocks hr hS (Nat.le_of_ble_eq_true rfl) (Nat.le_of_ble_eq_true rfl) dX1_effort_71
          · replace h := ifn c5 h
            refine lv_tableOut (tgt := 79) hx hb dX1_effort_1 (tsw_out (x := a1) 0 5 (fun k hk => by match k, hk with | 0, _ => exact c1 | 1, _ => exact c2 | 2, _ => exact c3 | 3, _ => exact c4 | 4, _ => exact c5) (by decide)) (by decide) ?_
            refine lv_aload_n hx hb dX1_effort_79 rfl (lv_at hl 0 rfl) ?_
            refine lv_iload_n hx hb dX1_effort_80 rfl (lv_at hl 2 rfl) ?_
            refine lv_iload_n hx hb dX1_effort_81 rfl (lv_at hl 3 rfl) ?_
            replace h := bd h
            obtain ⟨x7, q6, h⟩ := h
            refine c_X1_frameEffort ⟨hx, hb, hml, hown, hts⟩ hl.1 hK hP hS wd_395 ⟨(Nat.le_of_ble_eq_true rfl), (Nat.le_of_ble_eq_true rfl)⟩ q6 (Nat.le_of_ble_eq_true rfl) dX1_effort_82 ⟨(Nat.le_of_ble_eq_true rfl), (Nat.le_of_ble_eq_true rfl)⟩ (fun H locs hP hS => ?_)
            cases h
            exact e_ip hx hb hlocks hr hS (Nat.le_of_ble_eq_true rfl) (Nat.le_of_ble_eq_true rfl) dX1_effort_85
set_option maxRecDepth 100000 in
theorem c_X1_effort {p : Program} {l : Launch} {e : Env} {R : Room} {s : State} {m : MethodId} {args : Array Value} {below : List Frame} {meth : Method} {c : Code} {H : Heap} {locs : List Loc} {cells slots : Nat} {Q : State → Prop} {cc : ByteArray} {pc index nL : Nat} {ls : Array Slot} {rest : List Value} {D : va_G} {cy : Nat → ClassId} {A0 : Nat → Prop} {S : St} {H0 : Heap} {own : String} {a0 : Nat} {a1 : Int32} {a2 : Int32} {a3 : Int32} {r : Int32}  (hF : CallFix p m c cc nL s args ALLW own) (hsz : ls.size = nL) (hK : va_K D vwCl (tyL cy) s) (hP : SP D cy S H) (hS : va_S A0 H0 H locs) (hk : Cond.methodLink own index yX1_effort ∈ ALLW) (hR : rm_X1_effort.frames + 1 ≤ R.frames ∧ 8 + (4 + 11) + rm_X1_effort.locals ≤ R.locals) (h : f_X1_effort S a0 a1 a2 a3 = some r) (hW : (rest.map fun v => v.category).sum ≤ 8) (hdg : decode cc pc = .ok (.invokestatic index, 3)) (hf : cells + 0 ≤ R.cells ∧ slots + 0 ≤ R.slots)
    (kk : ∀ (H1 : Heap) (locs1 : List Loc), SP D cy S H1 → va_S A0 H0 H1 locs1 → W p l e R s m args below meth c H1 locs1 (cells + 0) (slots + 0) Q (F0 m (pc + 3) ls (.int r :: rest))) : W p l e R s m args below meth c H locs cells slots Q (F0 m pc ls (.int a3 :: .int a2 :: .int a1 :: .ref a0 :: rest)) := by
  exact k_iSp (As := [.ref a0, .int a1, .int a2, .int a3]) hF hsz (m_X1_effort l D cy S a0 a1 a2 a3 r h) (cwS_of (n := 4) hF.2.2.2.2 hk wd_365 wd_81 wd_366 rfl rfl (by decide +kernel) hR) rfl hK hP hS hW rfl hdg hf kk
/-- VowBlocks$Codes.answer(LVowBlocks$Row;II)I -/
def f_X1_answer (S : St) (a0 : Nat) (a1 : Int32) (a2 : Int32) : Option (Int32) :=
  if a1 = 0 then
    (oO S a0 3).bind fun _ =>
    (f_X4_timesOf S a0 a2).bind fun x9 =>
    some x9
  else
    if a1 = 1 then
      (oO S a0 3).bind fun _ =>
      (f_X4_sum S a0).bind fun x12 =>
      some x12
    else
      (oO S a0 3).bind fun _ =>
      (f_X4_firstPlace S a0 a2).bind fun x5 =>
      some x5
abbrev rm_X1_answer : Room := { frames := 1, cells := 0, slots := 0, locals := 23 }
set_option maxHeartbeats 4000000 in
set_option maxRecDepth 100000 in
theorem m_X1_answer (l : Launch) (D : va_G) (cy : Nat → ClassId) (S : St) (a0 : Nat) (a1 : Int32) (a2 : Int32) (r : Int32) (h : f_X1_answer S a0 a1 a2 = some r) : Met l yX1_answer (wsA yX1_answer cX1_answer 3 (some .int)) rm_X1_answer (va_Pc [.ref a0, .int a1, .int a2] (PS D cy S)) (va_Qi (fun r' (_ : Unit) => r' = r) (fun _ _ => True) noA) 0 0 noA := by
  refine Met.ofW (cc := cX1_answer) (maxL := 3) (ret := (some .int)) (by decide) rfl ?_
  intro p e s m args below meth c s₁ B hml hv
  obtain ⟨rfl, hP, hK⟩ := hv
  have hx := B.exec
  have hb := B.bytes
  have hr := B.returns
  have hts9 := atoms_spec (ws := wsA yX1_answer cX1_answer 3 (some .int)) B.pre
  have hts : ∀ w ∈ ALLW, w.before _ s = true := fun w h => hts9 w (List.mem_cons_of_mem _ h)
  have hown : s.vm.findClass RX1 = some m.cls := findClass_of_methodNamed B.named
  have hlocks := B.notSynchronized
  have hS : va_S noA s.heap s.heap [] := va_S.rf
  have hl := lv_entry [.ref a0, .int a1, .int a2] (n := 3) (Nat.le_of_ble_eq_true rfl)
  rw [lg_entry_eq]
  generalize (lg_sl [.ref a0, .int a1, .int a2] ++ List.replicate (3 - (lg_sl [.ref a0, .int a1, .int a2]).length) Slot.unset).toArray = ls at hl ⊢
  have hl : lv_has ls 3 [(0, .ref a0), (1, .int a1), (2, .int a2)] := hl
  rw [f_X1_answer] at h
  refine lv_iload_n hx hb dX1_answer_0 rfl (lv_at hl 1 rfl) ?_
  by_cases c1 : a1 = 0
  · replace h := ifp c1 h
    refine lv_lookup (off := 27) (tgt := 28) hx hb dX1_answer_1 (by decide) (by rw [c1]; decide) (by decide) ?_
    refine lv_aload_n hx hb dX1_answer_28 rfl (lv_at hl 0 rfl) ?_
    refine lv_iload_n hx hb dX1_answer_29 rfl (lv_at hl 2 rfl) ?_
    replace h := bd h
    obtain ⟨_, q7, h⟩ := h
    replace h := bd h
    obtain ⟨x9, q8, h⟩ := h
    refine c_X4_timesOf ⟨hx, hb, hml, hown, hts⟩ hl.1 hK hP hS wd_765 ⟨(Nat.le_of_ble_eq_true rfl), (Nat.le_of_ble_eq_true rfl)⟩ q8 q7 (Nat.le_of_ble_eq_true rfl) dX1_answer_30 ⟨(Nat.le_of_ble_eq_true rfl), (Nat.le_of_ble_eq_true rfl)⟩ (fun H locs hP hS => ?_)
    cases h
    exact e_ip hx hb hlocks hr hS (Nat.le_of_ble_eq_true rfl) (Nat.le_of_ble_eq_true rfl) dX1_answer_33
  · replace h := ifn c1 h
    by_cases c2 : a1 = 1
    · replace h := ifp c2 h
      refine lv_lookup (off := 33) (tgt := 34) hx hb dX1_answer_1 (by decide) (by rw [c2]; decide) (by decide) ?_
      refine lv_aload_n hx hb dX1_answer_34 rfl (lv_at hl 0 rfl) ?_
      replace h := bd h
      obtain ⟨_, q10, h⟩ := h
      replace h := bd h
      obtain ⟨x12, q11, h⟩ := h
      refine c_X4_sum ⟨hx, hb, hml, hown, hts⟩ hl.1 hK hP hS wd_766 ⟨(Nat.le_of_ble_eq_true rfl), (Nat.le_of_ble_eq_true rfl)⟩ q11 q10 (Nat.le_of_ble_eq_true rfl) dX1_answer_35 ⟨(Nat.le_of_ble_eq_true rfl), (Nat.le_of_ble_eq_true rfl)⟩ (fun H locs hP hS => ?_)
      cases h
      exact e_ip hx hb hlocks hr hS (Nat.le_of_ble_eq_true rfl) (Nat.le_of_ble_eq_true rfl) dX1_answer_38
    · replace h := ifn c2 h
      refine lv_lookup (off := 38) (tgt := 39) hx hb dX1_answer_1 (by decide) (by rw [lv_osw c1 (by decide)]; rw [lv_osw c2 (by decide)]; rfl) (by decide) ?_
      refine lv_aload_n hx hb dX1_answer_39 rfl (lv_at hl 0 rfl) ?_
      refine lv_iload_n hx hb dX1_answer_40 rfl (lv_at hl 2 rfl) ?_
      replace h := bd h
      obtain ⟨_, q3, h⟩ := h
      replace h := bd h
      obtain ⟨x5, q4, h⟩ := h
      refine c_X4_firstPlace ⟨hx, hb, hml, hown, hts⟩ hl.1 hK hP hS wd_370 ⟨(Nat.le_of_ble_eq_true rfl), (Nat.le_of_ble_eq_true rfl)⟩ q4 q3 (Nat.le_of_ble_eq_true rfl) dX1_answer_41 ⟨(Nat.le_of_ble_eq_true rfl), (Nat.le_of_ble_eq_true rfl)⟩ (fun H locs hP hS => ?_)
      cases h
      exact e_ip hx hb hlocks hr hS (Nat.le_of_ble_eq_true rfl) (Nat.le_of_ble_eq_true rfl) dX1_answer_44
set_option maxRecDepth 100000 in
theorem c_X1_answer {p : Program} {l : Launch} {e : Env} {R : Room} {s : State} {m : MethodId} {args : Array Value} {below : List Frame} {meth : Method} {c : Code} {H : Heap} {locs : List Loc} {cells slots : Nat} {Q : State → Prop} {cc : ByteArray} {pc index nL : Nat} {ls : Array Slot} {rest : List Value} {D : va_G} {cy : Nat → ClassId} {A0 : Nat → Prop} {S : St} {H0 : Heap} {own : String} {a0 : Nat} {a1 : Int32} {a2 : Int32} {r : Int32}  (hF : CallFix p m c cc nL s args ALLW own) (hsz : ls.size = nL) (hK : va_K D vwCl (tyL cy) s) (hP : SP D cy S H) (hS : va_S A0 H0 H locs) (hk : Cond.methodLink own index yX1_answer ∈ ALLW) (hR : rm_X1_answer.frames + 1 ≤ R.frames ∧ 8 + (3 + 11) + rm_X1_answer.locals ≤ R.locals) (h : f_X1_answer S a0 a1 a2 = some r) (hW : (rest.map fun v => v.category).sum ≤ 8) (hdg : decode cc pc = .ok (.invokestatic index, 3)) (hf : cells + 0 ≤ R.cells ∧ slots + 0 ≤ R.slots)
    (kk : ∀ (H1 : Heap) (locs1 : List Loc), SP D cy S H1 → va_S A0 H0 H1 locs1 → W p l e R s m args below meth c H1 locs1 (cells + 0) (slots + 0) Q (F0 m (pc + 3) ls (.int r :: rest))) : W p l e R s m args below meth c H locs cells slots Q (F0 m pc ls (.int a2 :: .int a1 :: .ref a0 :: rest)) := by
  exact k_iSp (As := [.ref a0, .int a1, .int a2]) hF hsz (m_X1_answer l D cy S a0 a1 a2 r h) (cwS_of (n := 3) hF.2.2.2.2 hk wd_763 wd_81 wd_764 rfl rfl (by decide +kernel) hR) rfl hK hP hS hW rfl hdg hf kk
