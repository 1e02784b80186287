/-- VowBlocksLaw.make(LVowBlocks;II[J)I -/
def f_L_make (S : St) (a0 : Nat) (a1 : Int32) (a2 : Int32) (a3 : Nat) : Option (Int32 × St) :=
  (oO S a0 5).bind fun _ =>
  (f_X6_make S a0 a1 a2).bind fun z3 =>
  Sum.elim (fun E =>
    if E = "java/lang/IllegalArgumentException" then
      some (1, z3.2)
    else
      if E = "java/lang/IllegalStateException" then
        some (2, z3.2)
      else
        none
  ) (fun x4 =>
  (sJ z3.2 a3 0 (Int32.toInt64 x4)).bind fun Z7 =>
  some (0, Z7)
  ) z3.1
abbrev rm_L_make : Room := { frames := 9, cells := 3, slots := 18, locals := 157 }
set_option maxHeartbeats 4000000 in
set_option maxRecDepth 100000 in
theorem m_L_make (l : Launch) (hl0 : l.stackTraces = false) (D : va_G) (cy : Nat → ClassId) (sz : Nat) (S : St) (a0 : Nat) (a1 : Int32) (a2 : Int32) (a3 : Nat) (r : Int32) (S1 : St) (h : f_L_make S a0 a1 a2 a3 = some (r, S1)) : Met l yL_make (wsW yL_make cL_make 5 (some .int)  [(0, 10, 13, 13), (0, 10, 17, 15)]) rm_L_make (va_Pc [.ref a0, .int a1, .int a2, .ref a3] (PNL D cy S sz)) (va_Qi (fun r' (_ : Unit) => r' = r) (fun _ t => PoS D cy S1 (dm S sz) t) (dm S sz)) 3 18 (dm S sz) := by
  refine va_MetW (cc := cL_make) (maxL := 5) (ret := (some .int)) (hh :=  [(0, 10, 13, 13), (0, 10, 17, 15)]) (by decide) rfl ?_
  intro p e s m args below meth c s₁ B hml hv
  obtain ⟨rfl, hsz, hP, hK, hE, hNC⟩ := hv
  have hx := B.exec
  have hb := B.bytes
  have hr := B.returns
  have hts9 := atoms_spec (ws := wsW yL_make cL_make 5 (some .int)  [(0, 10, 13, 13), (0, 10, 17, 15)]) B.pre
  have hts : ∀ w ∈ ALLW, w.before _ s = true := fun w h => hts9 w (List.mem_cons_of_mem _ h)
  have hex := vx_table (x := yL_make) B (hts9 _ List.mem_cons_self)
  have hown : s.vm.findClass RL = some m.cls := findClass_of_methodNamed B.named
  have hlocks := B.notSynchronized
  subst hsz
  have hD : ∀ a, S a ≠ none → dm S s.heap.size a := fun a h => Or.inl h
  have hA : ∀ q : Nat, s.heap.size ≤ q → dm S s.heap.size q := fun q h => Or.inr h
  have hS : va_S (dm S s.heap.size) s.heap s.heap [] := va_S.rf
  have hl := lv_entry [.ref a0, .int a1, .int a2, .ref a3] (n := 5) (Nat.le_of_ble_eq_true rfl)
  rw [lg_entry_eq]
  generalize (lg_sl [.ref a0, .int a1, .int a2, .ref a3] ++ List.replicate (5 - (lg_sl [.ref a0, .int a1, .int a2, .ref a3]).length) Slot.unset).toArray = ls at hl ⊢
  have hl : lv_has ls 5 [(0, .ref a0), (1, .int a1), (2, .int a2), (3, .ref a3)] := hl
  rw [f_L_make] at h
  refine lv_aload_n hx hb dL_make_0 rfl (lv_at hl 3 rfl) ?_
  refine lv_iconst (v := 0) hx hb dL_make_1 (by decide) ?_
  refine lv_aload_n hx hb dL_make_2 rfl (lv_at hl 0 rfl) ?_
  refine lv_iload_n hx hb dL_make_3 rfl (lv_at hl 1 rfl) ?_
  refine lv_iload_n hx hb dL_make_4 rfl (lv_at hl 2 rfl) ?_
  replace h := bd h
  obtain ⟨_, q1, h⟩ := h
  replace h := bd h
  obtain ⟨z3, q2, h⟩ := h
  refine c_X6_make ⟨hx, hb, hml, hown, hts⟩ hl.1 hK hP hD hA hS hE hl0 wd_475 ⟨(Nat.le_of_ble_eq_true rfl), (Nat.le_of_ble_eq_true rfl)⟩ q2 q1 (Nat.le_of_ble_eq_true rfl) dL_make_5 ⟨(Nat.le_of_ble_eq_true rfl), (Nat.le_of_ble_eq_true rfl)⟩ (fun E ce qx9 H locs hx9 hP hD hS h1 h2 h3 => ?_) (fun x4 H locs hx9 hP hD hS => ?_)
  · replace h := sel_l hx9 h
    by_cases c5 : E = "java/lang/IllegalArgumentException"
    · replace h := ifp c5 h
      subst c5
      refine vx_catch hown [] ⟨0, 10, 13, 13⟩ [⟨0, 10, 17, 15⟩] hex (fun z hz => nomatch hz) (by decide) (by decide) (hts _ wd_473) (va_Nw.use rfl (hE.1 _ wn_487)) h1 h2 h3 ?_
      refine lv_astore (lv' := [(4, .ref qx9), (0, .ref a0), (1, .int a1), (2, .int a2), (3, .ref a3)]) hx hb dL_make_13 hl (by decide) rfl (fun ls hl => ?_)
      refine lv_iconst (v := 1) hx hb dL_make_15 (by decide) ?_
      cases h
      exact e_im hx hb hlocks hr hP hD hS (Nat.le_of_ble_eq_true rfl) (Nat.le_of_ble_eq_true rfl) dL_make_16
    · replace h := ifn c5 h
      by_cases c6 : E = "java/lang/IllegalStateException"
      · replace h := ifp c6 h
        subst c6
        refine vx_catch hown [⟨0, 10, 13, 13⟩] ⟨0, 10, 17, 15⟩ [] hex (fun z hz => by cases hz with | head => exact Or.inr ⟨by decide, "java/lang/IllegalArgumentException", hts _ wd_473, hNC ("java/lang/IllegalStateException", "java/lang/IllegalArgumentException") (by decide)⟩ | tail _ hz => exact nomatch hz) (by decide) (by decide) (hts _ wd_474) (va_Nw.use rfl (hE.1 _ wn_563)) h1 h2 h3 ?_
        refine lv_astore (lv' := [(4, .ref qx9), (0, .ref a0), (1, .int a1), (2, .int a2), (3, .ref a3)]) hx hb dL_make_17 hl (by decide) rfl (fun ls hl => ?_)
        refine lv_iconst (v := 2) hx hb dL_make_19 (by decide) ?_
        cases h
        exact e_im hx hb hlocks hr hP hD hS (Nat.le_of_ble_eq_true rfl) (Nat.le_of_ble_eq_true rfl) dL_make_20
      · replace h := ifn c6 h
        cases h
  · replace h := sel_r hx9 h
    refine lv_i2l (v := (Int32.toInt64 x4)) hx hb dL_make_8 rfl ?_
    replace h := bd h
    obtain ⟨Z7, q8, h⟩ := h
    refine r_sJ hx hb hK hP hD hS q8 dL_make_9 (fun H locs hz9 hP hD hS => ?_)
    refine lv_goto (tgt := 21) hx hb dL_make_10 (by decide) ?_
    refine lv_iconst (v := 0) hx hb dL_make_21 (by decide) ?_
    cases h
    exact e_im hx hb hlocks hr hP hD hS (Nat.le_of_ble_eq_true rfl) (Nat.le_of_ble_eq_true rfl) dL_make_22
set_option maxRecDepth 100000 in
theorem c_L_make {p : Program} {l : Launch} {e : Env} {R : Room} {s : State} {m : MethodId} {args : Array Value} {below : List Frame} {meth : Method} {c : Code} {H : Heap} {locs : List Loc} {cells slots : Nat} {Q : State → Prop} {cc : ByteArray} {pc index nL : Nat} {ls : Array Slot} {rest : List Value} {D : va_G} {cy : Nat → ClassId} {A0 : Nat → Prop} {S : St} {own : String} {a0 : Nat} {a1 : Int32} {a2 : Int32} {a3 : Nat} {r : Int32} {S1 : St}  (hF : CallFix p m c cc nL s args ALLW own) (hsz : ls.size = nL) (hK : va_K D vwCl (tyL cy) s) (hP : SP D cy S H) (hD : ∀ a, S a ≠ none → A0 a) (hA : ∀ q, s.heap.size ≤ q → A0 q) (hS : va_S A0 s.heap H locs) (hE : ENV A0 s) (hNC : NCS s) (hl0 : l.stackTraces = false) (hk : Cond.methodLink own index yL_make ∈ ALLW) (hR : rm_L_make.frames + 1 ≤ R.frames ∧ 8 + (5 + 11) + rm_L_make.locals ≤ R.locals) (h : f_L_make S a0 a1 a2 a3 = some (r, S1)) (hW : (rest.map fun v => v.category).sum ≤ 8) (hdg : decode cc pc = .ok (.invokestatic index, 3)) (hf : cells + 3 ≤ R.cells ∧ slots + 18 ≤ R.slots)
    (kk : ∀ (H1 : Heap) (locs1 : List Loc), SP D cy S1 H1 → (∀ a, S1 a ≠ none → A0 a) → va_S A0 s.heap H1 locs1 → W p l e R s m args below meth c H1 locs1 (cells + 3) (slots + 18) Q (F0 m (pc + 3) ls (.int r :: rest))) : W p l e R s m args below meth c H locs cells slots Q (F0 m pc ls (.ref a3 :: .int a2 :: .int a1 :: .ref a0 :: rest)) := by
  exact k_W (As := [.ref a0, .int a1, .int a2, .ref a3]) hF hsz (m_L_make l hl0 D cy H.size S a0 a1 a2 a3 r S1 h) (cwW_of (n := 4) hF.2.2.2.2 hk wd_471 wd_68 wd_472 rfl rfl (by decide +kernel) hR) rfl hK hP hD hA hS hE hNC hW rfl hdg hf kk
/-- VowBlocksLaw.read(LVowBlocks;[J)I -/
def f_L_read (S : St) (a0 : Nat) (a1 : Nat) : Option (Int32 × St) :=
  (oO S a0 5).bind fun _ =>
  (f_X6_read S a0).bind fun z3 =>
  Sum.elim (fun E =>
    if E = "java/lang/IllegalArgumentException" then
      some (1, z3.2)
    else
      if E = "java/lang/IllegalStateException" then
        some (2, z3.2)
      else
        none
  ) (fun x4 =>
  (sJ z3.2 a1 0 (Int32.toInt64 x4)).bind fun Z7 =>
  some (0, Z7)
  ) z3.1
abbrev rm_L_read : Room := { frames := 8, cells := 1, slots := 6, locals := 155 }
set_option maxHeartbeats 4000000 in
set_option maxRecDepth 100000 in
theorem m_L_read (l : Launch) (hl0 : l.stackTraces = false) (D : va_G) (cy : Nat → ClassId) (sz : Nat) (S : St) (a0 : Nat) (a1 : Nat) (r : Int32) (S1 : St) (h : f_L_read S a0 a1 = some (r, S1)) : Met l yL_read (wsW yL_read cL_read 3 (some .int)  [(0, 8, 11, 13), (0, 8, 14, 15)]) rm_L_read (va_Pc [.ref a0, .ref a1] (PNL D cy S sz)) (va_Qi (fun r' (_ : Unit) => r' = r) (fun _ t => PoS D cy S1 (dm S sz) t) (dm S sz)) 1 6 (dm S sz) := by
  refine va_MetW (cc := cL_read) (maxL := 3) (ret := (some .int)) (hh :=  [(0, 8, 11, 13), (0, 8, 14, 15)]) (by decide) rfl ?_
  intro p e s m args below meth c s₁ B hml hv
  obtain ⟨rfl, hsz, hP, hK, hE, hNC⟩ := hv
  have hx := B.exec
  have hb := B.bytes
  have hr := B.returns
  have hts9 := atoms_spec (ws := wsW yL_read cL_read 3 (some .int)  [(0, 8, 11, 13), (0, 8, 14, 15)]) B.pre
  have hts : ∀ w ∈ ALLW, w.before _ s = true := fun w h => hts9 w (List.mem_cons_of_mem _ h)
  have hex := vx_table (x := yL_read) B (hts9 _ List.mem_cons_self)
  have hown : s.vm.findClass RL = some m.cls := findClass_of_methodNamed B.named
  have hlocks := B.notSynchronized
  subst hsz
  have hD : ∀ a, S a ≠ none → dm S s.heap.size a := fun a h => Or.inl h
  have hA : ∀ q : Nat, s.heap.size ≤ q → dm S s.heap.size q := fun q h => Or.inr h
  have hS : va_S (dm S s.heap.size) s.heap s.heap [] := va_S.rf
  have hl := lv_entry [.ref a0, .ref a1] (n := 3) (Nat.le_of_ble_eq_true rfl)
  rw [lg_entry_eq]
  generalize (lg_sl [.ref a0, .ref a1] ++ List.replicate (3 - (lg_sl [.ref a0, .ref a1]).length) Slot.unset).toArray = ls at hl ⊢
  have hl : lv_has ls 3 [(0, .ref a0), (1, .ref a1)] := hl
  rw [f_L_read] at h
  refine lv_aload_n hx hb dL_read_0 rfl (lv_at hl 1 rfl) ?_
  refine lv_iconst (v := 0) hx hb dL_read_1 (by decide) ?_
  refine lv_aload_n hx hb dL_read_2 rfl (lv_at hl 0 rfl) ?_
  replace h := bd h
  obtain ⟨_, q1, h⟩ := h
  replace h := bd h
  obtain ⟨z3, q2, h⟩ := h
  refine c_X6_read ⟨hx, hb, hml, hown, hts⟩ hl.1 hK hP hD hA hS hE hl0 wd_615 ⟨(Nat.le_of_ble_eq_true rfl), (Nat.le_of_ble_eq_true rfl)⟩ q2 q1 (Nat.le_of_ble_eq_true rfl) dL_read_3 ⟨(Nat.le_of_ble_eq_true rfl), (Nat.le_of_ble_eq_true rfl)⟩ (fun E ce qx9 H locs hx9 hP hD hS h1 h2 h3 => ?_) (fun x4 H locs hx9 hP hD hS => ?_)
  · replace h := sel_l hx9 h
    by_cases c5 : E = "java/lang/IllegalArgumentException"
    · replace h := ifp c5 h
      subst c5
      refine vx_catch hown [] ⟨0, 8, 11, 13⟩ [⟨0, 8, 14, 15⟩] hex (fun z hz => nomatch hz) (by decide) (by decide) (hts _ wd_473) (va_Nw.use rfl (hE.1 _ wn_487)) h1 h2 h3 ?_
      refine lv_astore_n (lv' := [(2, .ref qx9), (0, .ref a0), (1, .ref a1)]) hx hb dL_read_11 rfl hl (by decide) rfl (fun ls hl => ?_)
      refine lv_iconst (v := 1) hx hb dL_read_12 (by decide) ?_
      cases h
      exact e_im hx hb hlocks hr hP hD hS (Nat.le_of_ble_eq_true rfl) (Nat.le_of_ble_eq_true rfl) dL_read_13
    · replace h := ifn c5 h
      by_cases c6 : E = "java/lang/IllegalStateException"
      · replace h := ifp c6 h
        subst c6
        refine vx_catch hown [⟨0, 8, 11, 13⟩] ⟨0, 8, 14, 15⟩ [] hex (fun z hz => by cases hz with | head => exact Or.inr ⟨by decide, "java/lang/IllegalArgumentException", hts _ wd_473, hNC ("java/lang/IllegalStateException", "java/lang/IllegalArgumentException") (by decide)⟩ | tail _ hz => exact nomatch hz) (by decide) (by decide) (hts _ wd_474) (va_Nw.use rfl (hE.1 _ wn_563)) h1 h2 h3 ?_
        refine lv_astore_n (lv' := [(2, .ref qx9), (0, .ref a0), (1, .ref a1)]) hx hb dL_read_14 rfl hl (by decide) rfl (fun ls hl => ?_)
        refine lv_iconst (v := 2) hx hb dL_read_15 (by decide) ?_
        cases h
        exact e_im hx hb hlocks hr hP hD hS (Nat.le_of_ble_eq_true rfl) (Nat.le_of_ble_eq_true rfl) dL_read_16
      · replace h := ifn c6 h
        cases h
  · replace h := sel_r hx9 h
    refine lv_i2l (v := (Int32.toInt64 x4)) hx hb dL_read_6 rfl ?_
    replace h := bd h
    obtain ⟨Z7, q8, h⟩ := h
    refine r_sJ hx hb hK hP hD hS q8 dL_read_7 (fun H locs hz9 hP hD hS => ?_)
    refine lv_goto (tgt := 17) hx hb dL_read_8 (by decide) ?_
    refine lv_iconst (v := 0) hx hb dL_read_17 (by decide) ?_
    cases h
    exact e_im hx hb hlocks hr hP hD hS (Nat.le_of_ble_eq_true rfl) (Nat.le_of_ble_eq_true rfl) dL_read_18
set_option maxRecDepth 100000 in
theorem c_L_read {p : Program} {l : Launch} {e : Env} {R : Room} {s : State} {m : MethodId} {args : Array Value} {below : List Frame} {meth : Method} {c : Code} {H : Heap} {locs : List Loc} {cells slots : Nat} {Q : State → Prop} {cc : ByteArray} {pc index nL : Nat} {ls : Array Slot} {rest : List Value} {D : va_G} {cy : Nat → ClassId} {A0 : Nat → Prop} {S : St} {own : String} {a0 : Nat} {a1 : Nat} {r : Int32} {S1 : St}  (hF : CallFix p m c cc nL s args ALLW own) (hsz : ls.size = nL) (hK : va_K D vwCl (tyL cy) s) (hP : SP D cy S H) (hD : ∀ a, S a ≠ none → A0 a) (hA : ∀ q, s.heap.size ≤ q → A0 q) (hS : va_S A0 s.heap H locs) (hE : ENV A0 s) (hNC : NCS s) (hl0 : l.stackTraces = false) (hk : Cond.methodLink own index yL_read ∈ ALLW) (hR : rm_L_read.frames + 1 ≤ R.frames ∧ 8 + (3 + 11) + rm_L_read.locals ≤ R.locals) (h : f_L_read S a0 a1 = some (r, S1)) (hW : (rest.map fun v => v.category).sum ≤ 8) (hdg : decode cc pc = .ok (.invokestatic index, 3)) (hf : cells + 1 ≤ R.cells ∧ slots + 6 ≤ R.slots)
    (kk : ∀ (H1 : Heap) (locs1 : List Loc), SP D cy S1 H1 → (∀ a, S1 a ≠ none → A0 a) → va_S A0 s.heap H1 locs1 → W p l e R s m args below meth c H1 locs1 (cells + 1) (slots + 6) Q (F0 m (pc + 3) ls (.int r :: rest))) : W p l e R s m args below meth c H locs cells slots Q (F0 m pc ls (.ref a1 :: .ref a0 :: rest)) := by
  exact k_W (As := [.ref a0, .ref a1]) hF hsz (m_L_read l hl0 D cy H.size S a0 a1 r S1 h) (cwW_of (n := 2) hF.2.2.2.2 hk wd_613 wd_68 wd_614 rfl rfl (by decide +kernel) hR) rfl hK hP hD hA hS hE hNC hW rfl hdg hf kk
/-- VowBlocksLaw.add(LVowBlocks;II[J)I -/
def f_L_add (S : St) (a0 : Nat) (a1 : Int32) (a2 : Int32) (a3 : Nat) : Option (Int32 × St) :=
  (oO S a0 5).bind fun _ =>
  (f_X6_add S a0 a1 a2).bind fun z3 =>
  Sum.elim (fun E =>
    if E = "java/lang/IndexOutOfBoundsException" then
      some (1, z3.2)
    else
      if E = "java/lang/IllegalArgumentException" then
        some (2, z3.2)
      else
        if E = "java/lang/IllegalStateException" then
          some (3, z3.2)
        else
          none
  ) (fun x4 =>
  (sJ z3.2 a3 0 (Int32.toInt64 x4)).bind fun Z8 =>
  some (0, Z8)
  ) z3.1
abbrev rm_L_add : Room := { frames := 9, cells := 3, slots := 18, locals := 147 }
set_option maxHeartbeats 4000000 in
set_option maxRecDepth 100000 in
theorem m_L_add (l : Launch) (hl0 : l.stackTraces = false) (D : va_G) (cy : Nat → ClassId) (sz : Nat) (S : St) (a0 : Nat) (a1 : Int32) (a2 : Int32) (a3 : Nat) (r : Int32) (S1 : St) (h : f_L_add S a0 a1 a2 a3 = some (r, S1)) : Met l yL_add (wsW yL_add cL_add 5 (some .int)  [(0, 10, 13, 24), (0, 10, 17, 13), (0, 10, 21, 15)]) rm_L_add (va_Pc [.ref a0, .int a1, .int a2, .ref a3] (PNL D cy S sz)) (va_Qi (fun r' (_ : Unit) => r' = r) (fun _ t => PoS D cy S1 (dm S sz) t) (dm S sz)) 3 18 (dm S sz) := by
  refine va_MetW (cc := cL_add) (maxL := 5) (ret := (some .int)) (hh :=  [(0, 10, 13, 24), (0, 10, 17, 13), (0, 10, 21, 15)]) (by decide) rfl ?_
  intro p e s m args below meth c s₁ B hml hv
  obtain ⟨rfl, hsz, hP, hK, hE, hNC⟩ := hv
  have hx := B.exec
  have hb := B.bytes
  have hr := B.returns
  have hts9 := atoms_spec (ws := wsW yL_add cL_add 5 (some .int)  [(0, 10, 13, 24), (0, 10, 17, 13), (0, 10, 21, 15)]) B.pre
  have hts : ∀ w ∈ ALLW, w.before _ s = true := fun w h => hts9 w (List.mem_cons_of_mem _ h)
  have hex := vx_table (x := yL_add) B (hts9 _ List.mem_cons_self)
  have hown : s.vm.findClass RL = some m.cls := findClass_of_methodNamed B.named
  have hlocks := B.notSynchronized
  subst hsz
  have hD : ∀ a, S a ≠ none → dm S s.heap.size a := fun a h => Or.inl h
  have hA : ∀ q : Nat, s.heap.size ≤ q → dm S s.heap.size q := fun q h => Or.inr h
  have hS : va_S (dm S s.heap.size) s.heap s.heap [] := va_S.rf
  have hl := lv_entry [.ref a0, .int a1, .int a2, .ref a3] (n := 5) (Nat.le_of_ble_eq_true rfl)
  rw [lg_entry_eq]
  generalize (lg_sl [.ref a0, .int a1, .int a2, .ref a3] ++ List.replicate (5 - (lg_sl [.ref a0, .int a1, .int a2, .ref a3]).length) Slot.unset).toArray = ls at hl ⊢
  have hl : lv_has ls 5 [(0, .ref a0), (1, .int a1), (2, .int a2), (3, .ref a3)] := hl
  rw [f_L_add] at h
  refine lv_aload_n hx hb dL_add_0 rfl (lv_at hl 3 rfl) ?_
  refine lv_iconst (v := 0) hx hb dL_add_1 (by decide) ?_
  refine lv_aload_n hx hb dL_add_2 rfl (lv_at hl 0 rfl) ?_
  refine lv_iload_n hx hb dL_add_3 rfl (lv_at hl 1 rfl) ?_
  refine lv_iload_n hx hb dL_add_4 rfl (lv_at hl 2 rfl) ?_
  replace h := bd h
  obtain ⟨_, q1, h⟩ := h
  replace h := bd h
  obtain ⟨z3, q2, h⟩ := h
  refine c_X6_add ⟨hx, hb, hml, hown, hts⟩ hl.1 hK hP hD hA hS hE hl0 wd_634 ⟨(Nat.le_of_ble_eq_true rfl), (Nat.le_of_ble_eq_true rfl)⟩ q2 q1 (Nat.le_of_ble_eq_true rfl) dL_add_5 ⟨(Nat.le_of_ble_eq_true rfl), (Nat.le_of_ble_eq_true rfl)⟩ (fun E ce qx9 H locs hx9 hP hD hS h1 h2 h3 => ?_) (fun x4 H locs hx9 hP hD hS => ?_)
  · replace h := sel_l hx9 h
    by_cases c5 : E = "java/lang/IndexOutOfBoundsException"
    · replace h := ifp c5 h
      subst c5
      refine vx_catch hown [] ⟨0, 10, 13, 24⟩ [⟨0, 10, 17, 13⟩, ⟨0, 10, 21, 15⟩] hex (fun z hz => nomatch hz) (by decide) (by decide) (hts _ wd_633) (va_Nw.use rfl (hE.1 _ wn_645)) h1 h2 h3 ?_
      refine lv_astore (lv' := [(4, .ref qx9), (0, .ref a0), (1, .int a1), (2, .int a2), (3, .ref a3)]) hx hb dL_add_13 hl (by decide) rfl (fun ls hl => ?_)
      refine lv_iconst (v := 1) hx hb dL_add_15 (by decide) ?_
      cases h
      exact e_im hx hb hlocks hr hP hD hS (Nat.le_of_ble_eq_true rfl) (Nat.le_of_ble_eq_true rfl) dL_add_16
    · replace h := ifn c5 h
      by_cases c6 : E = "java/lang/IllegalArgumentException"
      · replace h := ifp c6 h
        subst c6
        refine vx_catch hown [⟨0, 10, 13, 24⟩] ⟨0, 10, 17, 13⟩ [⟨0, 10, 21, 15⟩] hex (fun z hz => by cases hz with | head => exact Or.inr ⟨by decide, "java/lang/IndexOutOfBoundsException", hts _ wd_633, hNC ("java/lang/IllegalArgumentException", "java/lang/IndexOutOfBoundsException") (by decide)⟩ | tail _ hz => exact nomatch hz) (by decide) (by decide) (hts _ wd_473) (va_Nw.use rfl (hE.1 _ wn_487)) h1 h2 h3 ?_
        refine lv_astore (lv' := [(4, .ref qx9), (0, .ref a0), (1, .int a1), (2, .int a2), (3, .ref a3)]) hx hb dL_add_17 hl (by decide) rfl (fun ls hl => ?_)
        refine lv_iconst (v := 2) hx hb dL_add_19 (by decide) ?_
        cases h
        exact e_im hx hb hlocks hr hP hD hS (Nat.le_of_ble_eq_true rfl) (Nat.le_of_ble_eq_true rfl) dL_add_20
      · replace h := ifn c6 h
        by_cases c7 : E = "java/lang/IllegalStateException"
        · replace h := ifp c7 h
          subst c7
          refine vx_catch hown [⟨0, 10, 13, 24⟩, ⟨0, 10, 17, 13⟩] ⟨0, 10, 21, 15⟩ [] hex (fun z hz => by cases hz with | head => exact Or.inr ⟨by decide, "java/lang/IndexOutOfBoundsException", hts _ wd_633, hNC ("java/lang/IllegalStateException", "java/lang/IndexOutOfBoundsException") (by decide)⟩ | tail _ hz => cases hz with | head => exact Or.inr ⟨by decide, "java/lang/IllegalArgumentException", hts _ wd_473, hNC ("java/lang/IllegalStateException", "java/lang/IllegalArgumentException") (by decide)⟩ | tail _ hz => exact nomatch hz) (by decide) (by decide) (hts _ wd_474) (va_Nw.use rfl (hE.1 _ wn_563)) h1 h2 h3 ?_
          refine lv_astore (lv' := [(4, .ref qx9), (0, .ref a0), (1, .int a1), (2, .int a2), (3, .ref a3)]) hx hb dL_add_21 hl (by decide) rfl (fun ls hl => ?_)
          refine lv_iconst (v := 3) hx hb dL_add_23 (by decide) ?_
          cases h
          exact e_im hx hb hlocks hr hP hD hS (Nat.le_of_ble_eq_true rfl) (Nat.le_of_ble_eq_true rfl) dL_add_24
        · replace h := ifn c7 h
          cases h
  · replace h := sel_r hx9 h
    refine lv_i2l (v := (Int32.toInt64 x4)) hx hb dL_add_8 rfl ?_
    replace h := bd h
    obtain ⟨Z8, q9, h⟩ := h
    refine r_sJ hx hb hK hP hD hS q9 dL_add_9 (fun H locs hz9 hP hD hS => ?_)
    refine lv_goto (tgt := 25) hx hb dL_add_10 (by decide) ?_
    refine lv_iconst (v := 0) hx hb dL_add_25 (by decide) ?_
    cases h
    exact e_im hx hb hlocks hr hP hD hS (Nat.le_of_ble_eq_true rfl) (Nat.le_of_ble_eq_true rfl) dL_add_26
set_option maxRecDepth 100000 in
theorem c_L_add {p : Program} {l : Launch} {e : Env} {R : Room} {s : State} {m : MethodId} {args : Array Value} {below : List Frame} {meth : Method} {c : Code} {H : Heap} {locs : List Loc} {cells slots : Nat} {Q : State → Prop} {cc : ByteArray} {pc index nL : Nat} {ls : Array Slot} {rest : List Value} {D : va_G} {cy : Nat → ClassId} {A0 : Nat → Prop} {S : St} {own : String} {a0 : Nat} {a1 : Int32} {a2 : Int32} {a3 : Nat} {r : Int32} {S1 : St}  (hF : CallFix p m c cc nL s args ALLW own) (hsz : ls.size = nL) (hK : va_K D vwCl (tyL cy) s) (hP : SP D cy S H) (hD : ∀ a, S a ≠ none → A0 a) (hA : ∀ q, s.heap.size ≤ q → A0 q) (hS : va_S A0 s.heap H locs) (hE : ENV A0 s) (hNC : NCS s) (hl0 : l.stackTraces = false) (hk : Cond.methodLink own index yL_add ∈ ALLW) (hR : rm_L_add.frames + 1 ≤ R.frames ∧ 8 + (5 + 11) + rm_L_add.locals ≤ R.locals) (h : f_L_add S a0 a1 a2 a3 = some (r, S1)) (hW : (rest.map fun v => v.category).sum ≤ 8) (hdg : decode cc pc = .ok (.invokestatic index, 3)) (hf : cells + 3 ≤ R.cells ∧ slots + 18 ≤ R.slots)
    (kk : ∀ (H1 : Heap) (locs1 : List Loc), SP D cy S1 H1 → (∀ a, S1 a ≠ none → A0 a) → va_S A0 s.heap H1 locs1 → W p l e R s m args below meth c H1 locs1 (cells + 3) (slots + 18) Q (F0 m (pc + 3) ls (.int r :: rest))) : W p l e R s m args below meth c H locs cells slots Q (F0 m pc ls (.ref a3 :: .int a2 :: .int a1 :: .ref a0 :: rest)) := by
  exact k_W (As := [.ref a0, .int a1, .int a2, .ref a3]) hF hsz (m_L_add l hl0 D cy H.size S a0 a1 a2 a3 r S1 h) (cwW_of (n := 4) hF.2.2.2.2 hk wd_631 wd_68 wd_632 rfl rfl (by decide +kernel) hR) rfl hK hP hD hA hS hE hNC hW rfl hdg hf kk
/-- VowBlocksLaw.put(LVowBlocks;III[J)I -/
def f_L_put (S : St) (a0 : Nat) (a1 : Int32) (a2 : Int32) (a3 : Int32) (a4 : Nat) : Option (Int32 × St) :=
  (oO S a0 5).bind fun _ =>
  (f_X6_put S a0 a1 a2 a3).bind fun z3 =>
  Sum.elim (fun E =>
    if E = "java/lang/IndexOutOfBoundsException" then
      some (1, z3.2)
    else
      if E = "java/lang/IllegalArgumentException" then
        some (2, z3.2)
      else
        none
  ) (fun x4 =>
  (sJ z3.2 a4 0 (Int32.toInt64 x4)).bind fun Z7 =>
  some (0, Z7)
  ) z3.1
abbrev rm_L_put : Room := { frames := 9, cells := 3, slots := 18, locals := 151 }
set_option maxHeartbeats 4000000 in
set_option maxRecDepth 100000 in
theorem m_L_put (l : Launch) (hl0 : l.stackTraces = false) (D : va_G) (cy : Nat → ClassId) (sz : Nat) (S : St) (a0 : Nat) (a1 : Int32) (a2 : Int32) (a3 : Int32) (a4 : Nat) (r : Int32) (S1 : St) (h : f_L_put S a0 a1 a2 a3 a4 = some (r, S1)) : Met l yL_put (wsW yL_put cL_put 6 (some .int)  [(0, 12, 15, 24), (0, 12, 19, 13)]) rm_L_put (va_Pc [.ref a0, .int a1, .int a2, .int a3, .ref a4] (PNL D cy S sz)) (va_Qi (fun r' (_ : Unit) => r' = r) (fun _ t => PoS D cy S1 (dm S sz) t) (dm S sz)) 3 18 (dm S sz) := by
  refine va_MetW (cc := cL_put) (maxL := 6) (ret := (some .int)) (hh :=  [(0, 12, 15, 24), (0, 12, 19, 13)]) (by decide) rfl ?_
  intro p e s m args below meth c s₁ B hml hv
  obtain ⟨rfl, hsz, hP, hK, hE, hNC⟩ := hv
  have hx := B.exec
  have hb := B.bytes
  have hr := B.returns
  have hts9 := atoms_spec (ws := wsW yL_put cL_put 6 (some .int)  [(0, 12, 15, 24), (0, 12, 19, 13)]) B.pre
  have hts : ∀ w ∈ ALLW, w.before _ s = true := fun w h => hts9 w (List.mem_cons_of_mem _ h)
  have hex := vx_table (x := yL_put) B (hts9 _ List.mem_cons_self)
  have hown : s.vm.findClass RL = some m.cls := findClass_of_methodNamed B.named
  have hlocks := B.notSynchronized
  subst hsz
  have hD : ∀ a, S a ≠ none → dm S s.heap.size a := fun a h => Or.inl h
  have hA : ∀ q : Nat, s.heap.size ≤ q → dm S s.heap.size q := fun q h => Or.inr h
  have hS : va_S (dm S s.heap.size) s.heap s.heap [] := va_S.rf
  have hl := lv_entry [.ref a0, .int a1, .int a2, .int a3, .ref a4] (n := 6) (Nat.le_of_ble_eq_true rfl)
  rw [lg_entry_eq]
  generalize (lg_sl [.ref a0, .int a1, .int a2, .int a3, .ref a4] ++ List.replicate (6 - (lg_sl [.ref a0, .int a1, .int a2, .int a3, .ref a4]).length) Slot.unset).toArray = ls at hl ⊢
  have hl : lv_has ls 6 [(0, .ref a0), (1, .int a1), (2, .int a2), (3, .int a3), (4, .ref a4)] := hl
  rw [f_L_put] at h
  refine lv_aload hx hb dL_put_0 (lv_at hl 4 rfl) ?_
  refine lv_iconst (v := 0) hx hb dL_put_2 (by decide) ?_
  refine lv_aload_n hx hb dL_put_3 rfl (lv_at hl 0 rfl) ?_
  refine lv_iload_n hx hb dL_put_4 rfl (lv_at hl 1 rfl) ?_
  refine lv_iload_n hx hb dL_put_5 rfl (lv_at hl 2 rfl) ?_
  refine lv_iload_n hx hb dL_put_6 rfl (lv_at hl 3 rfl) ?_
  replace h := bd h
  obtain ⟨_, q1, h⟩ := h
  replace h := bd h
  obtain ⟨z3, q2, h⟩ := h
  refine c_X6_put ⟨hx, hb, hml, hown, hts⟩ hl.1 hK hP hD hA hS hE hl0 wd_663 ⟨(Nat.le_of_ble_eq_true rfl), (Nat.le_of_ble_eq_true rfl)⟩ q2 q1 (Nat.le_of_ble_eq_true rfl) dL_put_7 ⟨(Nat.le_of_ble_eq_true rfl), (Nat.le_of_ble_eq_true rfl)⟩ (fun E ce qx9 H locs hx9 hP hD hS h1 h2 h3 => ?_) (fun x4 H locs hx9 hP hD hS => ?_)
  · replace h := sel_l hx9 h
    by_cases c5 : E = "java/lang/IndexOutOfBoundsException"
    · replace h := ifp c5 h
      subst c5
      refine vx_catch hown [] ⟨0, 12, 15, 24⟩ [⟨0, 12, 19, 13⟩] hex (fun z hz => nomatch hz) (by decide) (by decide) (hts _ wd_633) (va_Nw.use rfl (hE.1 _ wn_645)) h1 h2 h3 ?_
      refine lv_astore (lv' := [(5, .ref qx9), (0, .ref a0), (1, .int a1), (2, .int a2), (3, .int a3), (4, .ref a4)]) hx hb dL_put_15 hl (by decide) rfl (fun ls hl => ?_)
      refine lv_iconst (v := 1) hx hb dL_put_17 (by decide) ?_
      cases h
      exact e_im hx hb hlocks hr hP hD hS (Nat.le_of_ble_eq_true rfl) (Nat.le_of_ble_eq_true rfl) dL_put_18
    · replace h := ifn c5 h
      by_cases c6 : E = "java/lang/IllegalArgumentException"
      · replace h := ifp c6 h
        subst c6
        refine vx_catch hown [⟨0, 12, 15, 24⟩] ⟨0, 12, 19, 13⟩ [] hex (fun z hz => by cases hz with | head => exact Or.inr ⟨by decide, "java/lang/IndexOutOfBoundsException", hts _ wd_633, hNC ("java/lang/IllegalArgumentException", "java/lang/IndexOutOfBoundsException") (by decide)⟩ | tail _ hz => exact nomatch hz) (by decide) (by decide) (hts _ wd_473) (va_Nw.use rfl (hE.1 _ wn_487)) h1 h2 h3 ?_
        refine lv_astore (lv' := [(5, .ref qx9), (0, .ref a0), (1, .int a1), (2, .int a2), (3, .int a3), (4, .ref a4)]) hx hb dL_put_19 hl (by decide) rfl (fun ls hl => ?_)
        refine lv_iconst (v := 2) hx hb dL_put_21 (by decide) ?_
        cases h
        exact e_im hx hb hlocks hr hP hD hS (Nat.le_of_ble_eq_true rfl) (Nat.le_of_ble_eq_true rfl) dL_put_22
      · replace h := ifn c6 h
        cases h
  · replace h := sel_r hx9 h
    refine lv_i2l (v := (Int32.toInt64 x4)) hx hb dL_put_10 rfl ?_
    replace h := bd h
    obtain ⟨Z7, q8, h⟩ := h
    refine r_sJ hx hb hK hP hD hS q8 dL_put_11 (fun H locs hz9 hP hD hS => ?_)
    refine lv_goto (tgt := 23) hx hb dL_put_12 (by decide) ?_
    refine lv_iconst (v := 0) hx hb dL_put_23 (by decide) ?_
    cases h
    exact e_im hx hb hlocks hr hP hD hS (Nat.le_of_ble_eq_true rfl) (Nat.le_of_ble_eq_true rfl) dL_put_24
set_option maxRecDepth 100000 in
theorem c_L_put {p : Program} {l : Launch} {e : Env} {R : Room} {s : State} {m : MethodId} {args : Array Value} {below : List Frame} {meth : Method} {c : Code} {H : Heap} {locs : List Loc} {cells slots : Nat} {Q : State → Prop} {cc : ByteArray} {pc index nL : Nat} {ls : Array Slot} {rest : List Value} {D : va_G} {cy : Nat → ClassId} {A0 : Nat → Prop} {S : St} {own : String} {a0 : Nat} {a1 : Int32} {a2 : Int32} {a3 : Int32} {a4 : Nat} {r : Int32} {S1 : St}  (hF : CallFix p m c cc nL s args ALLW own) (hsz : ls.size = nL) (hK : va_K D vwCl (tyL cy) s) (hP : SP D cy S H) (hD : ∀ a, S a ≠ none → A0 a) (hA : ∀ q, s.heap.size ≤ q → A0 q) (hS : va_S A0 s.heap H locs) (hE : ENV A0 s) (hNC : NCS s) (hl0 : l.stackTraces = false) (hk : Cond.methodLink own index yL_put ∈ ALLW) (hR : rm_L_put.frames + 1 ≤ R.frames ∧ 8 + (6 + 11) + rm_L_put.locals ≤ R.locals) (h : f_L_put S a0 a1 a2 a3 a4 = some (r, S1)) (hW : (rest.map fun v => v.category).sum ≤ 8) (hdg : decode cc pc = .ok (.invokestatic index, 3)) (hf : cells + 3 ≤ R.cells ∧ slots + 18 ≤ R.slots)
    (kk : ∀ (H1 : Heap) (locs1 : List Loc), SP D cy S1 H1 → (∀ a, S1 a ≠ none → A0 a) → va_S A0 s.heap H1 locs1 → W p l e R s m args below meth c H1 locs1 (cells + 3) (slots + 18) Q (F0 m (pc + 3) ls (.int r :: rest))) : W p l e R s m args below meth c H locs cells slots Q (F0 m pc ls (.ref a4 :: .int a3 :: .int a2 :: .int a1 :: .ref a0 :: rest)) := by
  exact k_W (As := [.ref a0, .int a1, .int a2, .int a3, .ref a4]) hF hsz (m_L_put l hl0 D cy H.size S a0 a1 a2 a3 a4 r S1 h) (cwW_of (n := 5) hF.2.2.2.2 hk wd_661 wd_68 wd_662 rfl rfl (by decide +kernel) hR) rfl hK hP hD hA hS hE hNC hW rfl hdg hf kk
/-- VowBlocksLaw.take(LVowBlocks;II[J)I -/
def f_L_take (S : St) (a0 : Nat) (a1 : Int32) (a2 : Int32) (a3 : Nat) : Option (Int32 × St) :=
  (oO S a0 5).bind fun _ =>
  (f_X6_take S a0 a1 a2).bind fun z3 =>
  Sum.elim (fun E =>
    if E = "java/lang/IndexOutOfBoundsException" then
      some (1, z3.2)
    else
      if E = "java/lang/IllegalStateException" then
        some (2, z3.2)
      else
        none
  ) (fun x4 =>
  (sJ z3.2 a3 0 (Int32.toInt64 x4)).bind fun Z7 =>
  some (0, Z7)
  ) z3.1
abbrev rm_L_take : Room := { frames := 9, cells := 3, slots := 18, locals := 150 }
set_option maxHeartbeats 4000000 in
set_option maxRecDepth 100000 in
theorem m_L_take (l : Launch) (hl0 : l.stackTraces = false) (D : va_G) (cy : Nat → ClassId) (sz : Nat) (S : St) (a0 : Nat) (a1 : Int32) (a2 : Int32) (a3 : Nat) (r : Int32) (S1 : St) (h : f_L_take S a0 a1 a2 a3 = some (r, S1)) : Met l yL_take (wsW yL_take cL_take 5 (some .int)  [(0, 10, 13, 24), (0, 10, 17, 15)]) rm_L_take (va_Pc [.ref a0, .int a1, .int a2, .ref a3] (PNL D cy S sz)) (va_Qi (fun r' (_ : Unit) => r' = r) (fun _ t => PoS D cy S1 (dm S sz) t) (dm S sz)) 3 18 (dm S sz) := by
  refine va_MetW (cc := cL_take) (maxL := 5) (ret := (some .int)) (hh :=  [(0, 10, 13, 24), (0, 10, 17, 15)]) (by decide) rfl ?_
  intro p e s m args below meth c s₁ B hml hv
  obtain ⟨rfl, hsz, hP, hK, hE, hNC⟩ := hv
  have hx := B.exec
  have hb := B.bytes
  have hr := B.returns
  have hts9 := atoms_spec (ws := wsW yL_take cL_take 5 (some .int)  [(0, 10, 13, 24), (0, 10, 17, 15)]) B.pre
  have hts : ∀ w ∈ ALLW, w.before _ s = true := fun w h => hts9 w (List.mem_cons_of_mem _ h)
  have hex := vx_table (x := yL_take) B (hts9 _ List.mem_cons_self)
  have hown : s.vm.findClass RL = some m.cls := findClass_of_methodNamed B.named
  have hlocks := B.notSynchronized
  subst hsz
  have hD : ∀ a, S a ≠ none → dm S s.heap.size a := fun a h => Or.inl h
  have hA : ∀ q : Nat, s.heap.size ≤ q → dm S s.heap.size q := fun q h => Or.inr h
  have hS : va_S (dm S s.heap.size) s.heap s.heap [] := va_S.rf
  have hl := lv_entry [.ref a0, .int a1, .int a2, .ref a3] (n := 5) (Nat.le_of_ble_eq_true rfl)
  rw [lg_entry_eq]
  generalize (lg_sl [.ref a0, .int a1, .int a2, .ref a3] ++ List.replicate (5 - (lg_sl [.ref a0, .int a1, .int a2, .ref a3]).length) Slot.unset).toArray = ls at hl ⊢
  have hl : lv_has ls 5 [(0, .ref a0), (1, .int a1), (2, .int a2), (3, .ref a3)] := hl
  rw [f_L_take] at h
  refine lv_aload_n hx hb dL_take_0 rfl (lv_at hl 3 rfl) ?_
  refine lv_iconst (v := 0) hx hb dL_take_1 (by decide) ?_
  refine lv_aload_n hx hb dL_take_2 rfl (lv_at hl 0 rfl) ?_
  refine lv_iload_n hx hb dL_take_3 rfl (lv_at hl 1 rfl) ?_
  refine lv_iload_n hx hb dL_take_4 rfl (lv_at hl 2 rfl) ?_
  replace h := bd h
  obtain ⟨_, q1, h⟩ := h
  replace h := bd h
  obtain ⟨z3, q2, h⟩ := h
  refine c_X6_take ⟨hx, hb, hml, hown, hts⟩ hl.1 hK hP hD hA hS hE hl0 wd_676 ⟨(Nat.le_of_ble_eq_true rfl), (Nat.le_of_ble_eq_true rfl)⟩ q2 q1 (Nat.le_of_ble_eq_true rfl) dL_take_5 ⟨(Nat.le_of_ble_eq_true rfl), (Nat.le_of_ble_eq_true rfl)⟩ (fun E ce qx9 H locs hx9 hP hD hS h1 h2 h3 => ?_) (fun x4 H locs hx9 hP hD hS => ?_)
  · replace h := sel_l hx9 h
    by_cases c5 : E = "java/lang/IndexOutOfBoundsException"
    · replace h := ifp c5 h
      subst c5
      refine vx_catch hown [] ⟨0, 10, 13, 24⟩ [⟨0, 10, 17, 15⟩] hex (fun z hz => nomatch hz) (by decide) (by decide) (hts _ wd_633) (va_Nw.use rfl (hE.1 _ wn_645)) h1 h2 h3 ?_
      refine lv_astore (lv' := [(4, .ref qx9), (0, .ref a0), (1, .int a1), (2, .int a2), (3, .ref a3)]) hx hb dL_take_13 hl (by decide) rfl (fun ls hl => ?_)
      refine lv_iconst (v := 1) hx hb dL_take_15 (by decide) ?_
      cases h
      exact e_im hx hb hlocks hr hP hD hS (Nat.le_of_ble_eq_true rfl) (Nat.le_of_ble_eq_true rfl) dL_take_16
    · replace h := ifn c5 h
      by_cases c6 : E = "java/lang/IllegalStateException"
      · replace h := ifp c6 h
        subst c6
        refine vx_catch hown [⟨0, 10, 13, 24⟩] ⟨0, 10, 17, 15⟩ [] hex (fun z hz => by cases hz with | head => exact Or.inr ⟨by decide, "java/lang/IndexOutOfBoundsException", hts _ wd_633, hNC ("java/lang/IllegalStateException", "java/lang/IndexOutOfBoundsException") (by decide)⟩ | tail _ hz => exact nomatch hz) (by decide) (by decide) (hts _ wd_474) (va_Nw.use rfl (hE.1 _ wn_563)) h1 h2 h3 ?_
        refine lv_astore (lv' := [(4, .ref qx9), (0, .ref a0), (1, .int a1), (2, .int a2), (3, .ref a3)]) hx hb dL_take_17 hl (by decide) rfl (fun ls hl => ?_)
        refine lv_iconst (v := 2) hx hb dL_take_19 (by decide) ?_
        cases h
        exact e_im hx hb hlocks hr hP hD hS (Nat.le_of_ble_eq_true rfl) (Nat.le_of_ble_eq_true rfl) dL_take_20
      · replace h := ifn c6 h
        cases h
  · replace h := sel_r hx9 h
    refine lv_i2l (v := (Int32.toInt64 x4)) hx hb dL_take_8 rfl ?_
    replace h := bd h
    obtain ⟨Z7, q8, h⟩ := h
    refine r_sJ hx hb hK hP hD hS q8 dL_take_9 (fun H locs hz9 hP hD hS => ?_)
    refine lv_goto (tgt := 21) hx hb dL_take_10 (by decide) ?_
    refine lv_iconst (v := 0) hx hb dL_take_21 (by decide) ?_
    cases h
    exact e_im hx hb hlocks hr hP hD hS (Nat.le_of_ble_eq_true rfl) (Nat.le_of_ble_eq_true rfl) dL_take_22
set_option maxRecDepth 100000 in
theorem c_L_take {p : Program} {l : Launch} {e : Env} {R : Room} {s : State} {m : MethodId} {args : Array Value} {below : List Frame} {meth : Method} {c : Code} {H : Heap} {locs : List Loc} {cells slots : Nat} {Q : State → Prop} {cc : ByteArray} {pc index nL : Nat} {ls : Array Slot} {rest : List Value} {D : va_G} {cy : Nat → ClassId} {A0 : Nat → Prop} {S : St} {own : String} {a0 : Nat} {a1 : Int32} {a2 : Int32} {a3 : Nat} {r : Int32} {S1 : St}  (hF : CallFix p m c cc nL s args ALLW own) (hsz : ls.size = nL) (hK : va_K D vwCl (tyL cy) s) (hP : SP D cy S H) (hD : ∀ a, S a ≠ none → A0 a) (hA : ∀ q, s.heap.size ≤ q → A0 q) (hS : va_S A0 s.heap H locs) (hE : ENV A0 s) (hNC : NCS s) (hl0 : l.stackTraces = false) (hk : Cond.methodLink own index yL_take ∈ ALLW) (hR : rm_L_take.frames + 1 ≤ R.frames ∧ 8 + (5 + 11) + rm_L_take.locals ≤ R.locals) (h : f_L_take S a0 a1 a2 a3 = some (r, S1)) (hW : (rest.map fun v => v.category).sum ≤ 8) (hdg : decode cc pc = .ok (.invokestatic index, 3)) (hf : cells + 3 ≤ R.cells ∧ slots + 18 ≤ R.slots)
    (kk : ∀ (H1 : Heap) (locs1 : List Loc), SP D cy S1 H1 → (∀ a, S1 a ≠ none → A0 a) → va_S A0 s.heap H1 locs1 → W p l e R s m args below meth c H1 locs1 (cells + 3) (slots + 18) Q (F0 m (pc + 3) ls (.int r :: rest))) : W p l e R s m args below meth c H locs cells slots Q (F0 m pc ls (.ref a3 :: .int a2 :: .int a1 :: .ref a0 :: rest)) := by
  exact k_W (As := [.ref a0, .int a1, .int a2, .ref a3]) hF hsz (m_L_take l hl0 D cy H.size S a0 a1 a2 a3 r S1 h) (cwW_of (n := 4) hF.2.2.2.2 hk wd_674 wd_68 wd_675 rfl rfl (by decide +kernel) hR) rfl hK hP hD hA hS hE hNC hW rfl hdg hf kk
/-- VowBlocksLaw.turn(LVowBlocks;I[J)I -/
def f_L_turn (S : St) (a0 : Nat) (a1 : Int32) (a2 : Nat) : Option (Int32 × St) :=
  (oO S a0 5).bind fun _ =>
  (f_X6_turn S a0 a1).bind fun z3 =>
  Sum.elim (fun E =>
    if E = "java/lang/IndexOutOfBoundsException" then
      some (1, z3.2)
    else
      none
  ) (fun x4 =>
  (sJ z3.2 a2 0 (Int32.toInt64 x4)).bind fun Z6 =>
  some (0, Z6)
  ) z3.1
abbrev rm_L_turn : Room := { frames := 8, cells := 1, slots := 6, locals := 125 }
set_option maxHeartbeats 4000000 in
set_option maxRecDepth 100000 in
theorem m_L_turn (l : Launch) (hl0 : l.stackTraces = false) (D : va_G) (cy : Nat → ClassId) (sz : Nat) (S : St) (a0 : Nat) (a1 : Int32) (a2 : Nat) (r : Int32) (S1 : St) (h : f_L_turn S a0 a1 a2 = some (r, S1)) : Met l yL_turn (wsW yL_turn cL_turn 4 (some .int)  [(0, 9, 12, 24)]) rm_L_turn (va_Pc [.ref a0, .int a1, .ref a2] (PNL D cy S sz)) (va_Qi (fun r' (_ : Unit) => r' = r) (fun _ t => PoS D cy S1 (dm S sz) t) (dm S sz)) 1 6 (dm S sz) := by
  refine va_MetW (cc := cL_turn) (maxL := 4) (ret := (some .int)) (hh :=  [(0, 9, 12, 24)]) (by decide) rfl ?_
  intro p e s m args below meth c s₁ B hml hv
  obtain ⟨rfl, hsz, hP, hK, hE, hNC⟩ := hv
  have hx := B.exec
  have hb := B.bytes
  have hr := B.returns
  have hts9 := atoms_spec (ws := wsW yL_turn cL_turn 4 (some .int)  [(0, 9, 12, 24)]) B.pre
  have hts : ∀ w ∈ ALLW, w.before _ s = true := fun w h => hts9 w (List.mem_cons_of_mem _ h)
  have hex := vx_table (x := yL_turn) B (hts9 _ List.mem_cons_self)
  have hown : s.vm.findClass RL = some m.cls := findClass_of_methodNamed B.named
  have hlocks := B.notSynchronized
  subst hsz
  have hD : ∀ a, S a ≠ none → dm S s.heap.size a := fun a h => Or.inl h
  have hA : ∀ q : Nat, s.heap.size ≤ q → dm S s.heap.size q := fun q h => Or.inr h
  have hS : va_S (dm S s.heap.size) s.heap s.heap [] := va_S.rf
  have hl := lv_entry [.ref a0, .int a1, .ref a2] (n := 4) (Nat.le_of_ble_eq_true rfl)
  rw [lg_entry_eq]
  generalize (lg_sl [.ref a0, .int a1, .ref a2] ++ List.replicate (4 - (lg_sl [.ref a0, .int a1, .ref a2]).length) Slot.unset).toArray = ls at hl ⊢
  have hl : lv_has ls 4 [(0, .ref a0), (1, .int a1), (2, .ref a2)] := hl
  rw [f_L_turn] at h
  refine lv_aload_n hx hb dL_turn_0 rfl (lv_at hl 2 rfl) ?_
  refine lv_iconst (v := 0) hx hb dL_turn_1 (by decide) ?_
  refine lv_aload_n hx hb dL_turn_2 rfl (lv_at hl 0 rfl) ?_
  refine lv_iload_n hx hb dL_turn_3 rfl (lv_at hl 1 rfl) ?_
  replace h := bd h
  obtain ⟨_, q1, h⟩ := h
  replace h := bd h
  obtain ⟨z3, q2, h⟩ := h
  refine c_X6_turn ⟨hx, hb, hml, hown, hts⟩ hl.1 hK hP hD hA hS hE hl0 wd_688 ⟨(Nat.le_of_ble_eq_true rfl), (Nat.le_of_ble_eq_true rfl)⟩ q2 q1 (Nat.le_of_ble_eq_true rfl) dL_turn_4 ⟨(Nat.le_of_ble_eq_true rfl), (Nat.le_of_ble_eq_true rfl)⟩ (fun E ce qx9 H locs hx9 hP hD hS h1 h2 h3 => ?_) (fun x4 H locs hx9 hP hD hS => ?_)
  · replace h := sel_l hx9 h
    by_cases c5 : E = "java/lang/IndexOutOfBoundsException"
    · replace h := ifp c5 h
      subst c5
      refine vx_catch hown [] ⟨0, 9, 12, 24⟩ [] hex (fun z hz => nomatch hz) (by decide) (by decide) (hts _ wd_633) (va_Nw.use rfl (hE.1 _ wn_645)) h1 h2 h3 ?_
      refine lv_astore_n (lv' := [(3, .ref qx9), (0, .ref a0), (1, .int a1), (2, .ref a2)]) hx hb dL_turn_12 rfl hl (by decide) rfl (fun ls hl => ?_)
      refine lv_iconst (v := 1) hx hb dL_turn_13 (by decide) ?_
      cases h
      exact e_im hx hb hlocks hr hP hD hS (Nat.le_of_ble_eq_true rfl) (Nat.le_of_ble_eq_true rfl) dL_turn_14
    · replace h := ifn c5 h
      cases h
  · replace h := sel_r hx9 h
    refine lv_i2l (v := (Int32.toInt64 x4)) hx hb dL_turn_7 rfl ?_
    replace h := bd h
    obtain ⟨Z6, q7, h⟩ := h
    refine r_sJ hx hb hK hP hD hS q7 dL_turn_8 (fun H locs hz9 hP hD hS => ?_)
    refine lv_goto (tgt := 15) hx hb dL_turn_9 (by decide) ?_
    refine lv_iconst (v := 0) hx hb dL_turn_15 (by decide) ?_
    cases h
    exact e_im hx hb hlocks hr hP hD hS (Nat.le_of_ble_eq_true rfl) (Nat.le_of_ble_eq_true rfl) dL_turn_16
set_option maxRecDepth 100000 in
theorem c_L_turn {p : Program} {l : Launch} {e : Env} {R : Room} {s : State} {m : MethodId} {args : Array Value} {below : List Frame} {meth : Method} {c : Code} {H : Heap} {locs : List Loc} {cells slots : Nat} {Q : State → Prop} {cc : ByteArray} {pc index nL : Nat} {ls : Array Slot} {rest : List Value} {D : va_G} {cy : Nat → ClassId} {A0 : Nat → Prop} {S : St} {own : String} {a0 : Nat} {a1 : Int32} {a2 : Nat} {r : Int32} {S1 : St}  (hF : CallFix p m c cc nL s args ALLW own) (hsz : ls.size = nL) (hK : va_K D vwCl (tyL cy) s) (hP : SP D cy S H) (hD : ∀ a, S a ≠ none → A0 a) (hA : ∀ q, s.heap.size ≤ q → A0 q) (hS : va_S A0 s.heap H locs) (hE : ENV A0 s) (hNC : NCS s) (hl0 : l.stackTraces = false) (hk : Cond.methodLink own index yL_turn ∈ ALLW) (hR : rm_L_turn.frames + 1 ≤ R.frames ∧ 8 + (4 + 11) + rm_L_turn.locals ≤ R.locals) (h : f_L_turn S a0 a1 a2 = some (r, S1)) (hW : (rest.map fun v => v.category).sum ≤ 8) (hdg : decode cc pc = .ok (.invokestatic index, 3)) (hf : cells + 1 ≤ R.cells ∧ slots + 6 ≤ R.slots)
    (kk : ∀ (H1 : Heap) (locs1 : List Loc), SP D cy S1 H1 → (∀ a, S1 a ≠ none → A0 a) → va_S A0 s.heap H1 locs1 → W p l e R s m args below meth c H1 locs1 (cells + 1) (slots + 6) Q (F0 m (pc + 3) ls (.int r :: rest))) : W p l e R s m args below meth c H locs cells slots Q (F0 m pc ls (.ref a2 :: .int a1 :: .ref a0 :: rest)) := by
  exact k_W (As := [.ref a0, .int a1, .ref a2]) hF hsz (m_L_turn l hl0 D cy H.size S a0 a1 a2 r S1 h) (cwW_of (n := 3) hF.2.2.2.2 hk wd_686 wd_68 wd_687 rfl rfl (by decide +kernel) hR) rfl hK hP hD hA hS hE hNC hW rfl hdg hf kk
/-- VowBlocksLaw.join(LVowBlocks;II[J)I -/
def f_L_join (S : St) (a0 : Nat) (a1 : Int32) (a2 : Int32) (a3 : Nat) : Option (Int32 × St) :=
  (oO S a0 5).bind fun _ =>
  (f_X6_join S a0 a1 a2).bind fun z3 =>
  Sum.elim (fun E =>
    if E = "java/lang/IndexOutOfBoundsException" then
      some (1, z3.2)
    else
      if E = "java/lang/IllegalArgumentException" then
        some (2, z3.2)
      else
        if E = "java/lang/IllegalStateException" then
          some (3, z3.2)
        else
          none
  ) (fun x4 =>
  (sJ z3.2 a3 0 (Int32.toInt64 x4)).bind fun Z8 =>
  some (0, Z8)
  ) z3.1
abbrev rm_L_join : Room := { frames := 8, cells := 3, slots := 18, locals := 127 }
set_option maxHeartbeats 4000000 in
set_option maxRecDepth 100000 in
theorem m_L_join (l : Launch) (hl0 : l.stackTraces = false) (D : va_G) (cy : Nat → ClassId) (sz : Nat) (S : St) (a0 : Nat) (a1 : Int32) (a2 : Int32) (a3 : Nat) (r : Int32) (S1 : St) (h : f_L_join S a0 a1 a2 a3 = some (r, S1)) : Met l yL_join (wsW yL_join cL_join 5 (some .int)  [(0, 10, 13, 24), (0, 10, 17, 13), (0, 10, 21, 15)]) rm_L_join (va_Pc [.ref a0, .int a1, .int a2, .ref a3] (PNL D cy S sz)) (va_Qi (fun r' (_ : Unit) => r' = r) (fun _ t => PoS D cy S1 (dm S sz) t) (dm S sz)) 3 18 (dm S sz) := by
  refine va_MetW (cc := cL_join) (maxL := 5) (ret := (some .int)) (hh :=  [(0, 10, 13, 24), (0, 10, 17, 13), (0, 10, 21, 15)]) (by decide) rfl ?_
  intro p e s m args below meth c s₁ B hml hv
  obtain ⟨rfl, hsz, hP, hK, hE, hNC⟩ := hv
  have hx := B.exec
  have hb := B.bytes
  have hr := B.returns
  have hts9 := atoms_spec (ws := wsW yL_join cL_join 5 (some .int)  [(0, 10, 13, 24), (0, 10, 17, 13), (0, 10, 21, 15)]) B.pre
  have hts : ∀ w ∈ ALLW, w.before _ s = true := fun w h => hts9 w (List.mem_cons_of_mem _ h)
  have hex := vx_table (x := yL_join) B (hts9 _ List.mem_cons_self)
  have hown : s.vm.findClass RL = some m.cls := findClass_of_methodNamed B.named
  have hlocks := B.notSynchronized
  subst hsz
  have hD : ∀ a, S a ≠ none → dm S s.heap.size a := fun a h => Or.inl h
  have hA : ∀ q : Nat, s.heap.size ≤ q → dm S s.heap.size q := fun q h => Or.inr h
  have hS : va_S (dm S s.heap.size) s.heap s.heap [] := va_S.rf
  have hl := lv_entry [.ref a0, .int a1, .int a2, .ref a3] (n := 5) (Nat.le_of_ble_eq_true rfl)
  rw [lg_entry_eq]
  generalize (lg_sl [.ref a0, .int a1, .int a2, .ref a3] ++ List.replicate (5 - (lg_sl [.ref a0, .int a1, .int a2, .ref a3]).length) Slot.unset).toArray = ls at hl ⊢
  have hl : lv_has ls 5 [(0, .ref a0), (1, .int a1), (2, .int a2), (3, .ref a3)] := hl
  rw [f_L_join] at h
  refine lv_aload_n hx hb dL_join_0 rfl (lv_at hl 3 rfl) ?_
  refine lv_iconst (v := 0) hx hb dL_join_1 (by decide) ?_
  refine lv_aload_n hx hb dL_join_2 rfl (lv_at hl 0 rfl) ?_
  refine lv_iload_n hx hb dL_join_3 rfl (lv_at hl 1 rfl) ?_
  refine lv_iload_n hx hb dL_join_4 rfl (lv_at hl 2 rfl) ?_
  replace h := bd h
  obtain ⟨_, q1, h⟩ := h
  replace h := bd h
  obtain ⟨z3, q2, h⟩ := h
  refine c_X6_join ⟨hx, hb, hml, hown, hts⟩ hl.1 hK hP hD hA hS hE hl0 wd_699 ⟨(Nat.le_of_ble_eq_true rfl), (Nat.le_of_ble_eq_true rfl)⟩ q2 q1 (Nat.le_of_ble_eq_true rfl) dL_join_5 ⟨(Nat.le_of_ble_eq_true rfl), (Nat.le_of_ble_eq_true rfl)⟩ (fun E ce qx9 H locs hx9 hP hD hS h1 h2 h3 => ?_) (fun x4 H locs hx9 hP hD hS => ?_)
  · replace h := sel_l hx9 h
    by_cases c5 : E = "java/lang/IndexOutOfBoundsException"
    · replace h := ifp c5 h
      subst c5
      refine vx_catch hown [] ⟨0, 10, 13, 24⟩ [⟨0, 10, 17, 13⟩, ⟨0, 10, 21, 15⟩] hex (fun z hz => nomatch hz) (by decide) (by decide) (hts _ wd_633) (va_Nw.use rfl (hE.1 _ wn_645)) h1 h2 h3 ?_
      refine lv_astore (lv' := [(4, .ref qx9), (0, .ref a0), (1, .int a1), (2, .int a2), (3, .ref a3)]) hx hb dL_join_13 hl (by decide) rfl (fun ls hl => ?_)
      refine lv_iconst (v := 1) hx hb dL_join_15 (by decide) ?_
      cases h
      exact e_im hx hb hlocks hr hP hD hS (Nat.le_of_ble_eq_true rfl) (Nat.le_of_ble_eq_true rfl) dL_join_16
    · replace h := ifn c5 h
      by_cases c6 : E = "java/lang/IllegalArgumentException"
      · replace h := ifp c6 h
        subst c6
        refine vx_catch hown [⟨0, 10, 13, 24⟩] ⟨0, 10, 17, 13⟩ [⟨0, 10, 21, 15⟩] hex (fun z hz => by cases hz with | head => exact Or.inr ⟨by decide, "java/lang/IndexOutOfBoundsException", hts _ wd_633, hNC ("java/lang/IllegalArgumentException", "java/lang/IndexOutOfBoundsException") (by decide)⟩ | tail _ hz => exact nomatch hz) (by decide) (by decide) (hts _ wd_473) (va_Nw.use rfl (hE.1 _ wn_487)) h1 h2 h3 ?_
        refine lv_astore (lv' := [(4, .ref qx9), (0, .ref a0), (1, .int a1), (2, .int a2), (3, .ref a3)]) hx hb dL_join_17 hl (by decide) rfl (fun ls hl => ?_)
        refine lv_iconst (v := 2) hx hb dL_join_19 (by decide) ?_
        cases h
        exact e_im hx hb hlocks hr hP hD hS (Nat.le_of_ble_eq_true rfl) (Nat.le_of_ble_eq_true rfl) dL_join_20
      · replace h := ifn c6 h
        by_cases c7 : E = "java/lang/IllegalStateException"
        · replace h := ifp c7 h
          subst c7
          refine vx_catch hown [⟨0, 10, 13, 24⟩, ⟨0, 10, 17, 13⟩] ⟨0, 10, 21, 15⟩ [] hex (fun z hz => by cases hz with | head => exact Or.inr ⟨by decide, "java/lang/IndexOutOfBoundsException", hts _ wd_633, hNC ("java/lang/IllegalStateException", "java/lang/IndexOutOfBoundsException") (by decide)⟩ | tail _ hz => cases hz with | head => exact Or.inr ⟨by decide, "java/lang/IllegalArgumentException", hts _ wd_473, hNC ("java/lang/IllegalStateException", "java/lang/IllegalArgumentException") (by decide)⟩ | tail _ hz => exact nomatch hz) (by decide) (by decide) (hts _ wd_474) (va_Nw.use rfl (hE.1 _ wn_563)) h1 h2 h3 ?_
          refine lv_astore (lv' := [(4, .ref qx9), (0, .ref a0), (1, .int a1), (2, .int a2), (3, .ref a3)]) hx hb dL_join_21 hl (by decide) rfl (fun ls hl => ?_)
          refine lv_iconst (v := 3) hx hb dL_join_23 (by decide) ?_
          cases h
          exact e_im hx hb hlocks hr hP hD hS (Nat.le_of_ble_eq_true rfl) (Nat.le_of_ble_eq_true rfl) dL_join_24
        · replace h := ifn c7 h
          cases h
  · replace h := sel_r hx9 h
    refine lv_i2l (v := (Int32.toInt64 x4)) hx hb dL_join_8 rfl ?_
    replace h := bd h
    obtain ⟨Z8, q9, h⟩ := h
    refine r_sJ hx hb hK hP hD hS q9 dL_join_9 (fun H locs hz9 hP hD hS => ?_)
    refine lv_goto (tgt := 25) hx hb dL_join_10 (by decide) ?_
    refine lv_iconst (v := 0) hx hb dL_join_25 (by decide) ?_
    cases h
    exact e_im hx hb hlocks hr hP hD hS (Nat.le_of_ble_eq_true rfl) (Nat.le_of_ble_eq_true rfl) dL_join_26
set_option maxRecDepth 100000 in
theorem c_L_join {p : Program} {l : Launch} {e : Env} {R : Room} {s : State} {m : MethodId} {args : Array Value} {below : List Frame} {meth : Method} {c : Code} {H : Heap} {locs : List Loc} {cells slots : Nat} {Q : State → Prop} {cc : ByteArray} {pc index nL : Nat} {ls : Array Slot} {rest : List Value} {D : va_G} {cy : Nat → ClassId} {A0 : Nat → Prop} {S : St} {own : String} {a0 : Nat} {a1 : Int32} {a2 : Int32} {a3 : Nat} {r : Int32} {S1 : St}  (hF : CallFix p m c cc nL s args ALLW own) (hsz : ls.size = nL) (hK : va_K D vwCl (tyL cy) s) (hP : SP D cy S H) (hD : ∀ a, S a ≠ none → A0 a) (hA : ∀ q, s.heap.size ≤ q → A0 q) (hS : va_S A0 s.heap H locs) (hE : ENV A0 s) (hNC : NCS s) (hl0 : l.stackTraces = false) (hk : Cond.methodLink own index yL_join ∈ ALLW) (hR : rm_L_join.frames + 1 ≤ R.frames ∧ 8 + (5 + 11) + rm_L_join.locals ≤ R.locals) (h : f_L_join S a0 a1 a2 a3 = some (r, S1)) (hW : (rest.map fun v => v.category).sum ≤ 8) (hdg : decode cc pc = .ok (.invokestatic index, 3)) (hf : cells + 3 ≤ R.cells ∧ slots + 18 ≤ R.slots)
    (kk : ∀ (H1 : Heap) (locs1 : List Loc), SP D cy S1 H1 → (∀ a, S1 a ≠ none → A0 a) → va_S A0 s.heap H1 locs1 → W p l e R s m args below meth c H1 locs1 (cells + 3) (slots + 18) Q (F0 m (pc + 3) ls (.int r :: rest))) : W p l e R s m args below meth c H locs cells slots Q (F0 m pc ls (.ref a3 :: .int a2 :: .int a1 :: .ref a0 :: rest)) := by
  exact k_W (As := [.ref a0, .int a1, .int a2, .ref a3]) hF hsz (m_L_join l hl0 D cy H.size S a0 a1 a2 a3 r S1 h) (cwW_of (n := 4) hF.2.2.2.2 hk wd_697 wd_68 wd_698 rfl rfl (by decide +kernel) hR) rfl hK hP hD hA hS hE hNC hW rfl hdg hf kk
/-- VowBlocksLaw.cut(LVowBlocks;II[J)I -/
def f_L_cut (S : St) (a0 : Nat) (a1 : Int32) (a2 : Int32) (a3 : Nat) : Option (Int32 × St) :=
  (oO S a0 5).bind fun _ =>
  (f_X6_cut S a0 a1 a2).bind fun z3 =>
  Sum.elim (fun E =>
    if E = "java/lang/IndexOutOfBoundsException" then
      some (1, z3.2)
    else
      if E = "java/lang/IllegalStateException" then
        some (2, z3.2)
      else
        none
  ) (fun x4 =>
  (sJ z3.2 a3 0 (Int32.toInt64 x4)).bind fun Z7 =>
  some (0, Z7)
  ) z3.1
abbrev rm_L_cut : Room := { frames := 9, cells := 3, slots := 18, locals := 158 }
set_option maxHeartbeats 4000000 in
set_option maxRecDepth 100000 in
theorem m_L_cut (l : Launch) (hl0 : l.stackTraces = false) (D : va_G) (cy : Nat → ClassId) (sz : Nat) (S : St) (a0 : Nat) (a1 : Int32) (a2 : Int32) (a3 : Nat) (r : Int32) (S1 : St) (h : f_L_cut S a0 a1 a2 a3 = some (r, S1)) : Met l yL_cut (wsW yL_cut cL_cut 5 (some .int)  [(0, 10, 13, 24), (0, 10, 17, 15)]) rm_L_cut (va_Pc [.ref a0, .int a1, .int a2, .ref a3] (PNL D cy S sz)) (va_Qi (fun r' (_ : Unit) => r' = r) (fun _ t => PoS D cy S1 (dm S sz) t) (dm S sz)) 3 18 (dm S sz) := by
  refine va_MetW (cc := cL_cut) (maxL := 5) (ret := (some .int)) (hh :=  [(0, 10, 13, 24), (0, 10, 17, 15)]) (by decide) rfl ?_
  intro p e s m args below meth c s₁ B hml hv
  obtain ⟨rfl, hsz, hP, hK, hE, hNC⟩ := hv
  have hx := B.exec
  have hb := B.bytes
  have hr := B.returns
  have hts9 := atoms_spec (ws := wsW yL_cut cL_cut 5 (some .int)  [(0, 10, 13, 24), (0, 10, 17, 15)]) B.pre
  have hts : ∀ w ∈ ALLW, w.before _ s = true := fun w h => hts9 w (List.mem_cons_of_mem _ h)
  have hex := vx_table (x := yL_cut) B (hts9 _ List.mem_cons_self)
  have hown : s.vm.findClass RL = some m.cls := findClass_of_methodNamed B.named
  have hlocks := B.notSynchronized
  subst hsz
  have hD : ∀ a, S a ≠ none → dm S s.heap.size a := fun a h => Or.inl h
  have hA : ∀ q : Nat, s.heap.size ≤ q → dm S s.heap.size q := fun q h => Or.inr h
  have hS : va_S (dm S s.heap.size) s.heap s.heap [] := va_S.rf
  have hl := lv_entry [.ref a0, .int a1, .int a2, .ref a3] (n := 5) (Nat.le_of_ble_eq_true rfl)
  rw [lg_entry_eq]
  generalize (lg_sl [.ref a0, .int a1, .int a2, .ref a3] ++ List.replicate (5 - (lg_sl [.ref a0, .int a1, .int a2, .ref a3]).length) Slot.unset).toArray = ls at hl ⊢
  have hl : lv_has ls 5 [(0, .ref a0), (1, .int a1), (2, .int a2), (3, .ref a3)] := hl
  rw [f_L_cut] at h
  refine lv_aload_n hx hb dL_cut_0 rfl (lv_at hl 3 rfl) ?_
  refine lv_iconst (v := 0) hx hb dL_cut_1 (by decide) ?_
  refine lv_aload_n hx hb dL_cut_2 rfl (lv_at hl 0 rfl) ?_
  refine lv_iload_n hx hb dL_cut_3 rfl (lv_at hl 1 rfl) ?_
  refine lv_iload_n hx hb dL_cut_4 rfl (lv_at hl 2 rfl) ?_
  replace h := bd h
  obtain ⟨_, q1, h⟩ := h
  replace h := bd h
  obtain ⟨z3, q2, h⟩ := h
  refine c_X6_cut ⟨hx, hb, hml, hown, hts⟩ hl.1 hK hP hD hA hS hE hl0 wd_717 ⟨(Nat.le_of_ble_eq_true rfl), (Nat.le_of_ble_eq_true rfl)⟩ q2 q1 (Nat.le_of_ble_eq_true rfl) dL_cut_5 ⟨(Nat.le_of_ble_eq_true rfl), (Nat.le_of_ble_eq_true rfl)⟩ (fun E ce qx9 H locs hx9 hP hD hS h1 h2 h3 => ?_) (fun x4 H locs hx9 hP hD hS => ?_)
  · replace h := sel_l hx9 h
    by_cases c5 : E = "java/lang/IndexOutOfBoundsException"
    · replace h := ifp c5 h
      subst c5
      refine vx_catch hown [] ⟨0, 10, 13, 24⟩ [⟨0, 10, 17, 15⟩] hex (fun z hz => nomatch hz) (by decide) (by decide) (hts _ wd_633) (va_Nw.use rfl (hE.1 _ wn_645)) h1 h2 h3 ?_
      refine lv_astore (lv' := [(4, .ref qx9), (0, .ref a0), (1, .int a1), (2, .int a2), (3, .ref a3)]) hx hb dL_cut_13 hl (by decide) rfl (fun ls hl => ?_)
      refine lv_iconst (v := 1) hx hb dL_cut_15 (by decide) ?_
      cases h
      exact e_im hx hb hlocks hr hP hD hS (Nat.le_of_ble_eq_true rfl) (Nat.le_of_ble_eq_true rfl) dL_cut_16
    · replace h := ifn c5 h
      by_cases c6 : E = "java/lang/IllegalStateException"
      · replace h := ifp c6 h
        subst c6
        refine vx_catch hown [⟨0, 10, 13, 24⟩] ⟨0, 10, 17, 15⟩ [] hex (fun z hz => by cases hz with | head => exact Or.inr ⟨by decide, "java/lang/IndexOutOfBoundsException", hts _ wd_633, hNC ("java/lang/IllegalStateException", "java/lang/IndexOutOfBoundsException") (by decide)⟩ | tail _ hz => exact nomatch hz) (by decide) (by decide) (hts _ wd_474) (va_Nw.use rfl (hE.1 _ wn_563)) h1 h2 h3 ?_
        refine lv_astore (lv' := [(4, .ref qx9), (0, .ref a0), (1, .int a1), (2, .int a2), (3, .ref a3)]) hx hb dL_cut_17 hl (by decide) rfl (fun ls hl => ?_)
        refine lv_iconst (v := 2) hx hb dL_cut_19 (by decide) ?_
        cases h
        exact e_im hx hb hlocks hr hP hD hS (Nat.le_of_ble_eq_true rfl) (Nat.le_of_ble_eq_true rfl) dL_cut_20
      · replace h := ifn c6 h
        cases h
  · replace h := sel_r hx9 h
    refine lv_i2l (v := (Int32.toInt64 x4)) hx hb dL_cut_8 rfl ?_
    replace h := bd h
    obtain ⟨Z7, q8, h⟩ := h
    refine r_sJ hx hb hK hP hD hS q8 dL_cut_9 (fun H locs hz9 hP hD hS => ?_)
    refine lv_goto (tgt := 21) hx hb dL_cut_10 (by decide) ?_
    refine lv_iconst (v := 0) hx hb dL_cut_21 (by decide) ?_
    cases h
    exact e_im hx hb hlocks hr hP hD hS (Nat.le_of_ble_eq_true rfl) (Nat.le_of_ble_eq_true rfl) dL_cut_22
set_option maxRecDepth 100000 in
theorem c_L_cut {p : Program} {l : Launch} {e : Env} {R : Room} {s : State} {m : MethodId} {args : Array Value} {below : List Frame} {meth : Method} {c : Code} {H : Heap} {locs : List Loc} {cells slots : Nat} {Q : State → Prop} {cc : ByteArray} {pc index nL : Nat} {ls : Array Slot} {rest : List Value} {D : va_G} {cy : Nat → ClassId} {A0 : Nat → Prop} {S : St} {own : String} {a0 : Nat} {a1 : Int32} {a2 : Int32} {a3 : Nat} {r : Int32} {S1 : St}  (hF : CallFix p m c cc nL s args ALLW own) (hsz : ls.size = nL) (hK : va_K D vwCl (tyL cy) s) (hP : SP D cy S H) (hD : ∀ a, S a ≠ none → A0 a) (hA : ∀ q, s.heap.size ≤ q → A0 q) (hS : va_S A0 s.heap H locs) (hE : ENV A0 s) (hNC : NCS s) (hl0 : l.stackTraces = false) (hk : Cond.methodLink own index yL_cut ∈ ALLW) (hR : rm_L_cut.frames + 1 ≤ R.frames ∧ 8 + (5 + 11) + rm_L_cut.locals ≤ R.locals) (h : f_L_cut S a0 a1 a2 a3 = some (r, S1)) (hW : (rest.map fun v => v.category).sum ≤ 8) (hdg : decode cc pc = .ok (.invokestatic index, 3)) (hf : cells + 3 ≤ R.cells ∧ slots + 18 ≤ R.slots)
    (kk : ∀ (H1 : Heap) (locs1 : List Loc), SP D cy S1 H1 → (∀ a, S1 a ≠ none → A0 a) → va_S A0 s.heap H1 locs1 → W p l e R s m args below meth c H1 locs1 (cells + 3) (slots + 18) Q (F0 m (pc + 3) ls (.int r :: rest))) : W p l e R s m args below meth c H locs cells slots Q (F0 m pc ls (.ref a3 :: .int a2 :: .int a1 :: .ref a0 :: rest)) := by
  exact k_W (As := [.ref a0, .int a1, .int a2, .ref a3]) hF hsz (m_L_cut l hl0 D cy H.size S a0 a1 a2 a3 r S1 h) (cwW_of (n := 4) hF.2.2.2.2 hk wd_715 wd_68 wd_716 rfl rfl (by decide +kernel) hR) rfl hK hP hD hA hS hE hNC hW rfl hdg hf kk
/-- VowBlocksLaw.pass(LVowBlocks;I[J)I -/
def f_L_pass (S : St) (a0 : Nat) (a1 : Int32) (a2 : Nat) : Option (Int32 × St) :=
  (oO S a0 5).bind fun _ =>
  (f_X6_pass S a0 a1).bind fun z3 =>
  Sum.elim (fun E =>
    if E = "java/lang/IllegalArgumentException" then
      some (1, z3.2)
    else
      if E = "java/lang/IllegalStateException" then
        some (2, z3.2)
      else
        none
  ) (fun x4 =>
  (sJ z3.2 a2 0 (Int32.toInt64 x4)).bind fun Z7 =>
  some (0, Z7)
  ) z3.1
abbrev rm_L_pass : Room := { frames := 8, cells := 2, slots := 12, locals := 160 }
set_option maxHeartbeats 4000000 in
set_option maxRecDepth 100000 in
theorem m_L_pass (l : Launch) (hl0 : l.stackTraces = false) (D : va_G) (cy : Nat → ClassId) (sz : Nat) (S : St) (a0 : Nat) (a1 : Int32) (a2 : Nat) (r : Int32) (S1 : St) (h : f_L_pass S a0 a1 a2 = some (r, S1)) : Met l yL_pass (wsW yL_pass cL_pass 4 (some .int)  [(0, 9, 12, 13), (0, 9, 15, 15)]) rm_L_pass (va_Pc [.ref a0, .int a1, .ref a2] (PNL D cy S sz)) (va_Qi (fun r' (_ : Unit) => r' = r) (fun _ t => PoS D cy S1 (dm S sz) t) (dm S sz)) 2 12 (dm S sz) := by
  refine va_MetW (cc := cL_pass) (maxL := 4) (ret := (some .int)) (hh :=  [(0, 9, 12, 13), (0, 9, 15, 15)]) (by decide) rfl ?_
  intro p e s m args below meth c s₁ B hml hv
  obtain ⟨rfl, hsz, hP, hK, hE, hNC⟩ := hv
  have hx := B.exec
  have hb := B.bytes
  have hr := B.returns
  have hts9 := atoms_spec (ws := wsW yL_pass cL_pass 4 (some .int)  [(0, 9, 12, 13), (0, 9, 15, 15)]) B.pre
  have hts : ∀ w ∈ ALLW, w.before _ s = true := fun w h => hts9 w (List.mem_cons_of_mem _ h)
  have hex := vx_table (x := yL_pass) B (hts9 _ List.mem_cons_self)
  have hown : s.vm.findClass RL = some m.cls := findClass_of_methodNamed B.named
  have hlocks := B.notSynchronized
  subst hsz
  have hD : ∀ a, S a ≠ none → dm S s.heap.size a := fun a h => Or.inl h
  have hA : ∀ q : Nat, s.heap.size ≤ q → dm S s.heap.size q := fun q h => Or.inr h
  have hS : va_S (dm S s.heap.size) s.heap s.heap [] := va_S.rf
  have hl := lv_entry [.ref a0, .int a1, .ref a2] (n := 4) (Nat.le_of_ble_eq_true rfl)
  rw [lg_entry_eq]
  generalize (lg_sl [.ref a0, .int a1, .ref a2] ++ List.replicate (4 - (lg_sl [.ref a0, .int a1, .ref a2]).length) Slot.unset).toArray = ls at hl ⊢
  have hl : lv_has ls 4 [(0, .ref a0), (1, .int a1), (2, .ref a2)] := hl
  rw [f_L_pass] at h
  refine lv_aload_n hx hb dL_pass_0 rfl (lv_at hl 2 rfl) ?_
  refine lv_iconst (v := 0) hx hb dL_pass_1 (by decide) ?_
  refine lv_aload_n hx hb dL_pass_2 rfl (lv_at hl 0 rfl) ?_
  refine lv_iload_n hx hb dL_pass_3 rfl (lv_at hl 1 rfl) ?_
  replace h := bd h
  obtain ⟨_, q1, h⟩ := h
  replace h := bd h
  obtain ⟨z3, q2, h⟩ := h
  refine c_X6_pass ⟨hx, hb, hml, hown, hts⟩ hl.1 hK hP hD hA hS hE hl0 wd_729 ⟨(Nat.le_of_ble_eq_true rfl), (Nat.le_of_ble_eq_true rfl)⟩ q2 q1 (Nat.le_of_ble_eq_true rfl) dL_pass_4 ⟨(Nat.le_of_ble_eq_true rfl), (Nat.le_of_ble_eq_true rfl)⟩ (fun E ce qx9 H locs hx9 hP hD hS h1 h2 h3 => ?_) (fun x4 H locs hx9 hP hD hS => ?_)
  · replace h := sel_l hx9 h
    by_cases c5 : E = "java/lang/IllegalArgumentException"
    · replace h := ifp c5 h
      subst c5
      refine vx_catch hown [] ⟨0, 9, 12, 13⟩ [⟨0, 9, 15, 15⟩] hex (fun z hz => nomatch hz) (by decide) (by decide) (hts _ wd_473) (va_Nw.use rfl (hE.1 _ wn_487)) h1 h2 h3 ?_
      refine lv_astore_n (lv' := [(3, .ref qx9), (0, .ref a0), (1, .int a1), (2, .ref a2)]) hx hb dL_pass_12 rfl hl (by decide) rfl (fun ls hl => ?_)
      refine lv_iconst (v := 1) hx hb dL_pass_13 (by decide) ?_
      cases h
      exact e_im hx hb hlocks hr hP hD hS (Nat.le_of_ble_eq_true rfl) (Nat.le_of_ble_eq_true rfl) dL_pass_14
    · replace h := ifn c5 h
      by_cases c6 : E = "java/lang/IllegalStateException"
      · replace h := ifp c6 h
        subst c6
        refine vx_catch hown [⟨0, 9, 12, 13⟩] ⟨0, 9, 15, 15⟩ [] hex (fun z hz => by cases hz with | head => exact Or.inr ⟨by decide, "java/lang/IllegalArgumentException", hts _ wd_473, hNC ("java/lang/IllegalStateException", "java/lang/IllegalArgumentException") (by decide)⟩ | tail _ hz => exact nomatch hz) (by decide) (by decide) (hts _ wd_474) (va_Nw.use rfl (hE.1 _ wn_563)) h1 h2 h3 ?_
        refine lv_astore_n (lv' := [(3, .ref qx9), (0, .ref a0), (1, .int a1), (2, .ref a2)]) hx hb dL_pass_15 rfl hl (by decide) rfl (fun ls hl => ?_)
        refine lv_iconst (v := 2) hx hb dL_pass_16 (by decide) ?_
        cases h
        exact e_im hx hb hlocks hr hP hD hS (Nat.le_of_ble_eq_true rfl) (Nat.le_of_ble_eq_true rfl) dL_pass_17
      · replace h := ifn c6 h
        cases h
  · replace h := sel_r hx9 h
    refine lv_i2l (v := (Int32.toInt64 x4)) hx hb dL_pass_7 rfl ?_
    replace h := bd h
    obtain ⟨Z7, q8, h⟩ := h
    refine r_sJ hx hb hK hP hD hS q8 dL_pass_8 (fun H locs hz9 hP hD hS => ?_)
    refine lv_goto (tgt := 18) hx hb dL_pass_9 (by decide) ?_
    refine lv_iconst (v := 0) hx hb dL_pass_18 (by decide) ?_
    cases h
    exact e_im hx hb hlocks hr hP hD hS (Nat.le_of_ble_eq_true rfl) (Nat.le_of_ble_eq_true rfl) dL_pass_19
set_option maxRecDepth 100000 in
theorem c_L_pass {p : Program} {l : Launch} {e : Env} {R : Room} {s : State} {m : MethodId} {args : Array Value} {below : List Frame} {meth : Method} {c : Code} {H : Heap} {locs : List Loc} {cells slots : Nat} {Q : State → Prop} {cc : ByteArray} {pc index nL : Nat} {ls : Array Slot} {rest : List Value} {D : va_G} {cy : Nat → ClassId} {A0 : Nat → Prop} {S : St} {own : String} {a0 : Nat} {a1 : Int32} {a2 : Nat} {r : Int32} {S1 : St}  (hF : CallFix p m c cc nL s args ALLW own) (hsz : ls.size = nL) (hK : va_K D vwCl (tyL cy) s) (hP : SP D cy S H) (hD : ∀ a, S a ≠ none → A0 a) (hA : ∀ q, s.heap.size ≤ q → A0 q) (hS : va_S A0 s.heap H locs) (hE : ENV A0 s) (hNC : NCS s) (hl0 : l.stackTraces = false) (hk : Cond.methodLink own index yL_pass ∈ ALLW) (hR : rm_L_pass.frames + 1 ≤ R.frames ∧ 8 + (4 + 11) + rm_L_pass.locals ≤ R.locals) (h : f_L_pass S a0 a1 a2 = some (r, S1)) (hW : (rest.map fun v => v.category).sum ≤ 8) (hdg : decode cc pc = .ok (.invokestatic index, 3)) (hf : cells + 2 ≤ R.cells ∧ slots + 12 ≤ R.slots)
    (kk : ∀ (H1 : Heap) (locs1 : List Loc), SP D cy S1 H1 → (∀ a, S1 a ≠ none → A0 a) → va_S A0 s.heap H1 locs1 → W p l e R s m args below meth c H1 locs1 (cells + 2) (slots + 12) Q (F0 m (pc + 3) ls (.int r :: rest))) : W p l e R s m args below meth c H locs cells slots Q (F0 m pc ls (.ref a2 :: .int a1 :: .ref a0 :: rest)) := by
  exact k_W (As := [.ref a0, .int a1, .ref a2]) hF hsz (m_L_pass l hl0 D cy H.size S a0 a1 a2 r S1 h) (cwW_of (n := 3) hF.2.2.2.2 hk wd_727 wd_68 wd_728 rfl rfl (by decide +kernel) hR) rfl hK hP hD hA hS hE hNC hW rfl hdg hf kk
/-- VowBlocksLaw.breakVow(LVowBlocks;I[J)I -/
def f_L_breakVow (S : St) (a0 : Nat) (a1 : Int32) (a2 : Nat) : Option (Int32 × St) :=
  (oO S a0 5).bind fun _ =>
  (f_X6_breakVow S a0 a1).bind fun z3 =>
  Sum.elim (fun E =>
    if E = "java/lang/IndexOutOfBoundsException" then
      some (1, z3.2)
    else
      none
  ) (fun x4 =>
  (sJ z3.2 a2 0 (Int32.toInt64 x4)).bind fun Z6 =>
  some (0, Z6)
  ) z3.1
abbrev rm_L_breakVow : Room := { frames := 8, cells := 1, slots := 6, locals := 126 }
set_option maxHeartbeats 4000000 in
set_option maxRecDepth 100000 in
theorem m_L_breakVow (l : Launch) (hl0 : l.stackTraces = false) (D : va_G) (cy : Nat → ClassId) (sz : Nat) (S : St) (a0 : Nat) (a1 : Int32) (a2 : Nat) (r : Int32) (S1 : St) (h : f_L_breakVow S a0 a1 a2 = some (r, S1)) : Met l yL_breakVow (wsW yL_breakVow cL_breakVow 4 (some .int)  [(0, 9, 12, 24)]) rm_L_breakVow (va_Pc [.ref a0, .int a1, .ref a2] (PNL D cy S sz)) (va_Qi (fun r' (_ : Unit) => r' = r) (fun _ t => PoS D cy S1 (dm S sz) t) (dm S sz)) 1 6 (dm S sz) := by
  refine va_MetW (cc := cL_breakVow) (maxL := 4) (ret := (some .int)) (hh :=  [(0, 9, 12, 24)]) (by decide) rfl ?_
  intro p e s m args below meth c s₁ B hml hv
  obtain ⟨rfl, hsz, hP, hK, hE, hNC⟩ := hv
  have hx := B.exec
  have hb := B.bytes
  have hr := B.returns
  have hts9 := atoms_spec (ws := wsW yL_breakVow cL_breakVow 4 (some .int)  [(0, 9, 12, 24)]) B.pre
  have hts : ∀ w ∈ ALLW, w.before _ s = true := fun w h => hts9 w (List.mem_cons_of_mem _ h)
  have hex := vx_table (x := yL_breakVow) B (hts9 _ List.mem_cons_self)
  have hown : s.vm.findClass RL = some m.cls := findClass_of_methodNamed B.named
  have hlocks := B.notSynchronized
  subst hsz
  have hD : ∀ a, S a ≠ none → dm S s.heap.size a := fun a h => Or.inl h
  have hA : ∀ q : Nat, s.heap.size ≤ q → dm S s.heap.size q := fun q h => Or.inr h
  have hS : va_S (dm S s.heap.size) s.heap s.heap [] := va_S.rf
  have hl := lv_entry [.ref a0, .int a1, .ref a2] (n := 4) (Nat.le_of_ble_eq_true rfl)
  rw [lg_entry_eq]
  generalize (lg_sl [.ref a0, .int a1, .ref a2] ++ List.replicate (4 - (lg_sl [.ref a0, .int a1, .ref a2]).length) Slot.unset).toArray = ls at hl ⊢
  have hl : lv_has ls 4 [(0, .ref a0), (1, .int a1), (2, .ref a2)] := hl
  rw [f_L_breakVow] at h
  refine lv_aload_n hx hb dL_breakVow_0 rfl (lv_at hl 2 rfl) ?_
  refine lv_iconst (v := 0) hx hb dL_breakVow_1 (by decide) ?_
  refine lv_aload_n hx hb dL_breakVow_2 rfl (lv_at hl 0 rfl) ?_
  refine lv_iload_n hx hb dL_breakVow_3 rfl (lv_at hl 1 rfl) ?_
  replace h := bd h
  obtain ⟨_, q1, h⟩ := h
  replace h := bd h
  obtain ⟨z3, q2, h⟩ := h
  refine c_X6_breakVow ⟨hx, hb, hml, hown, hts⟩ hl.1 hK hP hD hA hS hE hl0 wd_747 ⟨(Nat.le_of_ble_eq_true rfl), (Nat.le_of_ble_eq_true rfl)⟩ q2 q1 (Nat.le_of_ble_eq_true rfl) dL_breakVow_4 ⟨(Nat.le_of_ble_eq_true rfl), (Nat.le_of_ble_eq_true rfl)⟩ (fun E ce qx9 H locs hx9 hP hD hS h1 h2 h3 => ?_) (fun x4 H locs hx9 hP hD hS => ?_)
  · replace h := sel_l hx9 h
    by_cases c5 : E = "java/lang/IndexOutOfBoundsException"
    · replace h := ifp c5 h
      subst c5
      refine vx_catch hown [] ⟨0, 9, 12, 24⟩ [] hex (fun z hz => nomatch hz) (by decide) (by decide) (hts _ wd_633) (va_Nw.use rfl (hE.1 _ wn_645)) h1 h2 h3 ?_
      refine lv_astore_n (lv' := [(3, .ref qx9), (0, .ref a0), (1, .int a1), (2, .ref a2)]) hx hb dL_breakVow_12 rfl hl (by decide) rfl (fun ls hl => ?_)
      refine lv_iconst (v := 1) hx hb dL_breakVow_13 (by decide) ?_
      cases h
      exact e_im hx hb hlocks hr hP hD hS (Nat.le_of_ble_eq_true rfl) (Nat.le_of_ble_eq_true rfl) dL_breakVow_14
    · replace h := ifn c5 h
      cases h
  · replace h := sel_r hx9 h
    refine lv_i2l (v := (Int32.toInt64 x4)) hx hb dL_breakVow_7 rfl ?_
    replace h := bd h
    obtain ⟨Z6, q7, h⟩ := h
    refine r_sJ hx hb hK hP hD hS q7 dL_breakVow_8 (fun H locs hz9 hP hD hS => ?_)
    refine lv_goto (tgt := 15) hx hb dL_breakVow_9 (by decide) ?_
    refine lv_iconst (v := 0) hx hb dL_breakVow_15 (by decide) ?_
    cases h
    exact e_im hx hb hlocks hr hP hD hS (Nat.le_of_ble_eq_true rfl) (Nat.le_of_ble_eq_true rfl) dL_breakVow_16
set_option maxRecDepth 100000 in
theorem c_L_breakVow {p : Program} {l : Launch} {e : Env} {R : Room} {s : State} {m : MethodId} {args : Array Value} {below : List Frame} {meth : Method} {c : Code} {H : Heap} {locs : List Loc} {cells slots : Nat} {Q : State → Prop} {cc : ByteArray} {pc index nL : Nat} {ls : Array Slot} {rest : List Value} {D : va_G} {cy : Nat → ClassId} {A0 : Nat → Prop} {S : St} {own : String} {a0 : Nat} {a1 : Int32} {a2 : Nat} {r : Int32} {S1 : St}  (hF : CallFix p m c cc nL s args ALLW own) (hsz : ls.size = nL) (hK : va_K D vwCl (tyL cy) s) (hP : SP D cy S H) (hD : ∀ a, S a ≠ none → A0 a) (hA : ∀ q, s.heap.size ≤ q → A0 q) (hS : va_S A0 s.heap H locs) (hE : ENV A0 s) (hNC : NCS s) (hl0 : l.stackTraces = false) (hk : Cond.methodLink own index yL_breakVow ∈ ALLW) (hR : rm_L_breakVow.frames + 1 ≤ R.frames ∧ 8 + (4 + 11) + rm_L_breakVow.locals ≤ R.locals) (h : f_L_breakVow S a0 a1 a2 = some (r, S1)) (hW : (rest.map fun v => v.category).sum ≤ 8) (hdg : decode cc pc = .ok (.invokestatic index, 3)) (hf : cells + 1 ≤ R.cells ∧ slots + 6 ≤ R.slots)
    (kk : ∀ (H1 : Heap) (locs1 : List Loc), SP D cy S1 H1 → (∀ a, S1 a ≠ none → A0 a) → va_S A0 s.heap H1 locs1 → W p l e R s m args below meth c H1 locs1 (cells + 1) (slots + 6) Q (F0 m (pc + 3) ls (.int r :: rest))) : W p l e R s m args below meth c H locs cells slots Q (F0 m pc ls (.ref a2 :: .int a1 :: .ref a0 :: rest)) := by
  exact k_W (As := [.ref a0, .int a1, .ref a2]) hF hsz (m_L_breakVow l hl0 D cy H.size S a0 a1 a2 r S1 h) (cwW_of (n := 3) hF.2.2.2.2 hk wd_745 wd_68 wd_746 rfl rfl (by decide +kernel) hR) rfl hK hP hD hA hS hE hNC hW rfl hdg hf kk
/-- VowBlocksLaw.ask(LVowBlocks;III[J)I -/
def f_L_ask (S : St) (a0 : Nat) (a1 : Int32) (a2 : Int32) (a3 : Int32) (a4 : Nat) : Option (Int32 × St) :=
  (oO S a0 5).bind fun _ =>
  (f_X6_ask S a0 a1 a2 a3).bind fun z3 =>
  Sum.elim (fun E =>
    if E = "java/lang/IndexOutOfBoundsException" then
      some (1, z3.2)
    else
      if E = "java/lang/IllegalArgumentException" then
        some (2, z3.2)
      else
        none
  ) (fun x4 =>
  (sJ z3.2 a4 0 (Int32.toInt64 x4)).bind fun Z7 =>
  some (0, Z7)
  ) z3.1
abbrev rm_L_ask : Room := { frames := 10, cells := 3, slots := 18, locals := 169 }
set_option maxHeartbeats 4000000 in
set_option maxRecDepth 100000 in
theorem m_L_ask (l : Launch) (hl0 : l.stackTraces = false) (D : va_G) (cy : Nat → ClassId) (sz : Nat) (S : St) (a0 : Nat) (a1 : Int32) (a2 : Int32) (a3 : Int32) (a4 : Nat) (r : Int32) (S1 : St) (h : f_L_ask S a0 a1 a2 a3 a4 = some (r, S1)) : Met l yL_ask (wsW yL_ask cL_ask 6 (some .int)  [(0, 12, 15, 24), (0, 12, 19, 13)]) rm_L_ask (va_Pc [.ref a0, .int a1, .int a2, .int a3, .ref a4] (PNL D cy S sz)) (va_Qi (fun r' (_ : Unit) => r' = r) (fun _ t => PoS D cy S1 (dm S sz) t) (dm S sz)) 3 18 (dm S sz) := by
  refine va_MetW (cc := cL_ask) (maxL := 6) (ret := (some .int)) (hh :=  [(0, 12, 15, 24), (0, 12, 19, 13)]) (by decide) rfl ?_
  intro p e s m args below meth c s₁ B hml hv
  obtain ⟨rfl, hsz, hP, hK, hE, hNC⟩ := hv
  have hx := B.exec
  have hb := B.bytes
  have hr := B.returns
  have hts9 := atoms_spec (ws := wsW yL_ask cL_ask 6 (some .int)  [(0, 12, 15, 24), (0, 12, 19, 13)]) B.pre
  have hts : ∀ w ∈ ALLW, w.before _ s = true := fun w h => hts9 w (List.mem_cons_of_mem _ h)
  have hex := vx_table (x := yL_ask) B (hts9 _ List.mem_cons_self)
  have hown : s.vm.findClass RL = some m.cls := findClass_of_methodNamed B.named
  have hlocks := B.notSynchronized
  subst hsz
  have hD : ∀ a, S a ≠ none → dm S s.heap.size a := fun a h => Or.inl h
  have hA : ∀ q : Nat, s.heap.size ≤ q → dm S s.heap.size q := fun q h => Or.inr h
  have hS : va_S (dm S s.heap.size) s.heap s.heap [] := va_S.rf
  have hl := lv_entry [.ref a0, .int a1, .int a2, .int a3, .ref a4] (n := 6) (Nat.le_of_ble_eq_true rfl)
  rw [lg_entry_eq]
  generalize (lg_sl [.ref a0, .int a1, .int a2, .int a3, .ref a4] ++ List.replicate (6 - (lg_sl [.ref a0, .int a1, .int a2, .int a3, .ref a4]).length) Slot.unset).toArray = ls at hl ⊢
  have hl : lv_has ls 6 [(0, .ref a0), (1, .int a1), (2, .int a2), (3, .int a3), (4, .ref a4)] := hl
  rw [f_L_ask] at h
  refine lv_aload hx hb dL_ask_0 (lv_at hl 4 rfl) ?_
  refine lv_iconst (v := 0) hx hb dL_ask_2 (by decide) ?_
  refine lv_aload_n hx hb dL_ask_3 rfl (lv_at hl 0 rfl) ?_
  refine lv_iload_n hx hb dL_ask_4 rfl (lv_at hl 1 rfl) ?_
  refine lv_iload_n hx hb dL_ask_5 rfl (lv_at hl 2 rfl) ?_
  refine lv_iload_n hx hb dL_ask_6 rfl (lv_at hl 3 rfl) ?_
  replace h := bd h
  obtain ⟨_, q1, h⟩ := h
  replace h := bd h
  obtain ⟨z3, q2, h⟩ := h
  refine c_X6_ask ⟨hx, hb, hml, hown, hts⟩ hl.1 hK hP hD hA hS hE hl0 wd_755 ⟨(Nat.le_of_ble_eq_true rfl), (Nat.le_of_ble_eq_true rfl)⟩ q2 q1 (Nat.le_of_ble_eq_true rfl) dL_ask_7 ⟨(Nat.le_of_ble_eq_true rfl), (Nat.le_of_ble_eq_true rfl)⟩ (fun E ce qx9 H locs hx9 hP hD hS h1 h2 h3 => ?_) (fun x4 H locs hx9 hP hD hS => ?_)
  · replace h := sel_l hx9 h
    by_cases c5 : E = "java/lang/IndexOutOfBoundsException"
    · replace h := ifp c5 h
      subst c5
      refine vx_catch hown [] ⟨0, 12, 15, 24⟩ [⟨0, 12, 19, 13⟩] hex (fun z hz => nomatch hz) (by decide) (by decide) (hts _ wd_633) (va_Nw.use rfl (hE.1 _ wn_645)) h1 h2 h3 ?_
      refine lv_astore (lv' := [(5, .ref qx9), (0, .ref a0), (1, .int a1), (2, .int a2), (3, .int a3), (4, .ref a4)]) hx hb dL_ask_15 hl (by decide) rfl (fun ls hl => ?_)
      refine lv_iconst (v := 1) hx hb dL_ask_17 (by decide) ?_
      cases h
      exact e_im hx hb hlocks hr hP hD hS (Nat.le_of_ble_eq_true rfl) (Nat.le_of_ble_eq_true rfl) dL_ask_18
    · replace h := ifn c5 h
      by_cases c6 : E = "java/lang/IllegalArgumentException"
      · replace h := ifp c6 h
        subst c6
        refine vx_catch hown [⟨0, 12, 15, 24⟩] ⟨0, 12, 19, 13⟩ [] hex (fun z hz => by cases hz with | head => exact Or.inr ⟨by decide, "java/lang/IndexOutOfBoundsException", hts _ wd_633, hNC ("java/lang/IllegalArgumentException", "java/lang/IndexOutOfBoundsException") (by decide)⟩ | tail _ hz => exact nomatch hz) (by decide) (by decide) (hts _ wd_473) (va_Nw.use rfl (hE.1 _ wn_487)) h1 h2 h3 ?_
        refine lv_astore (lv' := [(5, .ref qx9), (0, .ref a0), (1, .int a1), (2, .int a2), (3, .int a3), (4, .ref a4)]) hx hb dL_ask_19 hl (by decide) rfl (fun ls hl => ?_)
        refine lv_iconst (v := 2) hx hb dL_ask_21 (by decide) ?_
        cases h
        exact e_im hx hb hlocks hr hP hD hS (Nat.le_of_ble_eq_true rfl) (Nat.le_of_ble_eq_true rfl) dL_ask_22
      · replace h := ifn c6 h
        cases h
  · replace h := sel_r hx9 h
    refine lv_i2l (v := (Int32.toInt64 x4)) hx hb dL_ask_10 rfl ?_
    replace h := bd h
    obtain ⟨Z7, q8, h⟩ := h
    refine r_sJ hx hb hK hP hD hS q8 dL_ask_11 (fun H locs hz9 hP hD hS => ?_)
    refine lv_goto (tgt := 23) hx hb dL_ask_12 (by decide) ?_
    refine lv_iconst (v := 0) hx hb dL_ask_23 (by decide) ?_
    cases h
    exact e_im hx hb hlocks hr hP hD hS (Nat.le_of_ble_eq_true rfl) (Nat.le_of_ble_eq_true rfl) dL_ask_24
set_option maxRecDepth 100000 in
theorem c_L_ask {p : Program} {l : Launch} {e : Env} {R : Room} {s : State} {m : MethodId} {args : Array Value} {below : List Frame} {meth : Method} {c : Code} {H : Heap} {locs : List Loc} {cells slots : Nat} {Q : State → Prop} {cc : ByteArray} {pc index nL : Nat} {ls : Array Slot} {rest : List Value} {D : va_G} {cy : Nat → ClassId} {A0 : Nat → Prop} {S : St} {own : String} {a0 : Nat} {a1 : Int32} {a2 : Int32} {a3 : Int32} {a4 : Nat} {r : Int32} {S1 : St}  (hF : CallFix p m c cc nL s args ALLW own) (hsz : ls.size = nL) (hK : va_K D vwCl (tyL cy) s) (hP : SP D cy S H) (hD : ∀ a, S a ≠ none → A0 a) (hA : ∀ q, s.heap.size ≤ q → A0 q) (hS : va_S A0 s.heap H locs) (hE : ENV A0 s) (hNC : NCS s) (hl0 : l.stackTraces = false) (hk : Cond.methodLink own index yL_ask ∈ ALLW) (hR : rm_L_ask.frames + 1 ≤ R.frames ∧ 8 + (6 + 11) + rm_L_ask.locals ≤ R.locals) (h : f_L_ask S a0 a1 a2 a3 a4 = some (r, S1)) (hW : (rest.map fun v => v.category).sum ≤ 8) (hdg : decode cc pc = .ok (.invokestatic index, 3)) (hf : cells + 3 ≤ R.cells ∧ slots + 18 ≤ R.slots)
    (kk : ∀ (H1 : Heap) (locs1 : List Loc), SP D cy S1 H1 → (∀ a, S1 a ≠ none → A0 a) → va_S A0 s.heap H1 locs1 → W p l e R s m args below meth c H1 locs1 (cells + 3) (slots + 18) Q (F0 m (pc + 3) ls (.int r :: rest))) : W p l e R s m args below meth c H locs cells slots Q (F0 m pc ls (.ref a4 :: .int a3 :: .int a2 :: .int a1 :: .ref a0 :: rest)) := by
  exact k_W (As := [.ref a0, .int a1, .int a2, .int a3, .ref a4]) hF hsz (m_L_ask l hl0 D cy H.size S a0 a1 a2 a3 a4 r S1 h) (cwW_of (n := 5) hF.2.2.2.2 hk wd_753 wd_68 wd_754 rfl rfl (by decide +kernel) hR) rfl hK hP hD hA hS hE hNC hW rfl hdg hf kk
/-- VowBlocksLaw.set(LVowBlocks;II[J)I -/
def f_L_set (S : St) (a0 : Nat) (a1 : Int32) (a2 : Int32) (a3 : Nat) : Option (Int32 × St) :=
  (oO S a0 5).bind fun _ =>
  (f_X6_set S a0 a1 a2).bind fun z3 =>
  Sum.elim (fun E =>
    if E = "java/lang/IndexOutOfBoundsException" then
      some (1, z3.2)
    else
      if E = "java/lang/IllegalArgumentException" then
        some (2, z3.2)
      else
        none
  ) (fun x4 =>
  (sJ z3.2 a3 0 (Int32.toInt64 x4)).bind fun Z7 =>
  some (0, Z7)
  ) z3.1
abbrev rm_L_set : Room := { frames := 8, cells := 2, slots := 12, locals := 127 }
set_option maxHeartbeats 4000000 in
set_option maxRecDepth 100000 in
theorem m_L_set (l : Launch) (hl0 : l.stackTraces = false) (D : va_G) (cy : Nat → ClassId) (sz : Nat) (S : St) (a0 : Nat) (a1 : Int32) (a2 : Int32) (a3 : Nat) (r : Int32) (S1 : St) (h : f_L_set S a0 a1 a2 a3 = some (r, S1)) : Met l yL_set (wsW yL_set cL_set 5 (some .int)  [(0, 10, 13, 24), (0, 10, 17, 13)]) rm_L_set (va_Pc [.ref a0, .int a1, .int a2, .ref a3] (PNL D cy S sz)) (va_Qi (fun r' (_ : Unit) => r' = r) (fun _ t => PoS D cy S1 (dm S sz) t) (dm S sz)) 2 12 (dm S sz) := by
  refine va_MetW (cc := cL_set) (maxL := 5) (ret := (some .int)) (hh :=  [(0, 10, 13, 24), (0, 10, 17, 13)]) (by decide) rfl ?_
  intro p e s m args below meth c s₁ B hml hv
  obtain ⟨rfl, hsz, hP, hK, hE, hNC⟩ := hv
  have hx := B.exec
  have hb := B.bytes
  have hr := B.returns
  have hts9 := atoms_spec (ws := wsW yL_set cL_set 5 (some .int)  [(0, 10, 13, 24), (0, 10, 17, 13)]) B.pre
  have hts : ∀ w ∈ ALLW, w.before _ s = true := fun w h => hts9 w (List.mem_cons_of_mem _ h)
  have hex := vx_table (x := yL_set) B (hts9 _ List.mem_cons_self)
  have hown : s.vm.findClass RL = some m.cls := findClass_of_methodNamed B.named
  have hlocks := B.notSynchronized
  subst hsz
  have hD : ∀ a, S a ≠ none → dm S s.heap.size a := fun a h => Or.inl h
  have hA : ∀ q : Nat, s.heap.size ≤ q → dm S s.heap.size q := fun q h => Or.inr h
  have hS : va_S (dm S s.heap.size) s.heap s.heap [] := va_S.rf
  have hl := lv_entry [.ref a0, .int a1, .int a2, .ref a3] (n := 5) (Nat.le_of_ble_eq_true rfl)
  rw [lg_entry_eq]
  generalize (lg_sl [.ref a0, .int a1, .int a2, .ref a3] ++ List.replicate (5 - (lg_sl [.ref a0, .int a1, .int a2, .ref a3]).length) Slot.unset).toArray = ls at hl ⊢
  have hl : lv_has ls 5 [(0, .ref a0), (1, .int a1), (2, .int a2), (3, .ref a3)] := hl
  rw [f_L_set] at h
  refine lv_aload_n hx hb dL_set_0 rfl (lv_at hl 3 rfl) ?_
  refine lv_iconst (v := 0) hx hb dL_set_1 (by decide) ?_
  refine lv_aload_n hx hb dL_set_2 rfl (lv_at hl 0 rfl) ?_
  refine lv_iload_n hx hb dL_set_3 rfl (lv_at hl 1 rfl) ?_
  refine lv_iload_n hx hb dL_set_4 rfl (lv_at hl 2 rfl) ?_
  replace h := bd h
  obtain ⟨_, q1, h⟩ := h
  replace h := bd h
  obtain ⟨z3, q2, h⟩ := h
  refine c_X6_set ⟨hx, hb, hml, hown, hts⟩ hl.1 hK hP hD hA hS hE hl0 wd_773 ⟨(Nat.le_of_ble_eq_true rfl), (Nat.le_of_ble_eq_true rfl)⟩ q2 q1 (Nat.le_of_ble_eq_true rfl) dL_set_5 ⟨(Nat.le_of_ble_eq_true rfl), (Nat.le_of_ble_eq_true rfl)⟩ (fun E ce qx9 H locs hx9 hP hD hS h1 h2 h3 => ?_) (fun x4 H locs hx9 hP hD hS => ?_)
  · replace h := sel_l hx9 h
    by_cases c5 : E = "java/lang/IndexOutOfBoundsException"
    · replace h := ifp c5 h
      subst c5
      refine vx_catch hown [] ⟨0, 10, 13, 24⟩ [⟨0, 10, 17, 13⟩] hex (fun z hz => nomatch hz) (by decide) (by decide) (hts _ wd_633) (va_Nw.use rfl (hE.1 _ wn_645)) h1 h2 h3 ?_
      refine lv_astore (lv' := [(4, .ref qx9), (0, .ref a0), (1, .int a1), (2, .int a2), (3, .ref a3)]) hx hb dL_set_13 hl (by decide) rfl (fun ls hl => ?_)
      refine lv_iconst (v := 1) hx hb dL_set_15 (by decide) ?_
      cases h
      exact e_im hx hb hlocks hr hP hD hS (Nat.le_of_ble_eq_true rfl) (Nat.le_of_ble_eq_true rfl) dL_set_16
    · replace h := ifn c5 h
      by_cases c6 : E = "java/lang/IllegalArgumentException"
      · replace h := ifp c6 h
        subst c6
        refine vx_catch hown [⟨0, 10, 13, 24⟩] ⟨0, 10, 17, 13⟩ [] hex (fun z hz => by cases hz with | head => exact Or.inr ⟨by decide, "java/lang/IndexOutOfBoundsException", hts _ wd_633, hNC ("java/lang/IllegalArgumentException", "java/lang/IndexOutOfBoundsException") (by decide)⟩ | tail _ hz => exact nomatch hz) (by decide) (by decide) (hts _ wd_473) (va_Nw.use rfl (hE.1 _ wn_487)) h1 h2 h3 ?_
        refine lv_astore (lv' := [(4, .ref qx9), (0, .ref a0), (1, .int a1), (2, .int a2), (3, .ref a3)]) hx hb dL_set_17 hl (by decide) rfl (fun ls hl => ?_)
        refine lv_iconst (v := 2) hx hb dL_set_19 (by decide) ?_
        cases h
        exact e_im hx hb hlocks hr hP hD hS (Nat.le_of_ble_eq_true rfl) (Nat.le_of_ble_eq_true rfl) dL_set_20
      · replace h := ifn c6 h
        cases h
  · replace h := sel_r hx9 h
    refine lv_i2l (v := (Int32.toInt64 x4)) hx hb dL_set_8 rfl ?_
    replace h := bd h
    obtain ⟨Z7, q8, h⟩ := h
    refine r_sJ hx hb hK hP hD hS q8 dL_set_9 (fun H locs hz9 hP hD hS => ?_)
    refine lv_goto (tgt := 21) hx hb dL_set_10 (by decide) ?_
    refine lv_iconst (v := 0) hx hb dL_set_21 (by decide) ?_
    cases h
    exact e_im hx hb hlocks hr hP hD hS (Nat.le_of_ble_eq_true rfl) (Nat.le_of_ble_eq_true rfl) dL_set_22
set_option maxRecDepth 100000 in
theorem c_L_set {p : Program} {l : Launch} {e : Env} {R : Room} {s : State} {m : MethodId} {args : Array Value} {below : List Frame} {meth : Method} {c : Code} {H : Heap} {locs : List Loc} {cells slots : Nat} {Q : State → Prop} {cc : ByteArray} {pc index nL : Nat} {ls : Array Slot} {rest : List Value} {D : va_G} {cy : Nat → ClassId} {A0 : Nat → Prop} {S : St} {own : String} {a0 : Nat} {a1 : Int32} {a2 : Int32} {a3 : Nat} {r : Int32} {S1 : St}  (hF : CallFix p m c cc nL s args ALLW own) (hsz : ls.size = nL) (hK : va_K D vwCl (tyL cy) s) (hP : SP D cy S H) (hD : ∀ a, S a ≠ none → A0 a) (hA : ∀ q, s.heap.size ≤ q → A0 q) (hS : va_S A0 s.heap H locs) (hE : ENV A0 s) (hNC : NCS s) (hl0 : l.stackTraces = false) (hk : Cond.methodLink own index yL_set ∈ ALLW) (hR : rm_L_set.frames + 1 ≤ R.frames ∧ 8 + (5 + 11) + rm_L_set.locals ≤ R.locals) (h : f_L_set S a0 a1 a2 a3 = some (r, S1)) (hW : (rest.map fun v => v.category).sum ≤ 8) (hdg : decode cc pc = .ok (.invokestatic index, 3)) (hf : cells + 2 ≤ R.cells ∧ slots + 12 ≤ R.slots)
    (kk : ∀ (H1 : Heap) (locs1 : List Loc), SP D cy S1 H1 → (∀ a, S1 a ≠ none → A0 a) → va_S A0 s.heap H1 locs1 → W p l e R s m args below meth c H1 locs1 (cells + 2) (slots + 12) Q (F0 m (pc + 3) ls (.int r :: rest))) : W p l e R s m args below meth c H locs cells slots Q (F0 m pc ls (.ref a3 :: .int a2 :: .int a1 :: .ref a0 :: rest)) := by
  exact k_W (As := [.ref a0, .int a1, .int a2, .ref a3]) hF hsz (m_L_set l hl0 D cy H.size S a0 a1 a2 a3 r S1 h) (cwW_of (n := 4) hF.2.2.2.2 hk wd_771 wd_68 wd_772 rfl rfl (by decide +kernel) hR) rfl hK hP hD hA hS hE hNC hW rfl hdg hf kk
/-- VowBlocksLaw.append(LVowBlocks;I[J)I -/
def f_L_append (S : St) (a0 : Nat) (a1 : Int32) (a2 : Nat) : Option (Int32 × St) :=
  (oO S a0 5).bind fun _ =>
  (f_X6_append S a0 a1).bind fun z3 =>
  Sum.elim (fun E =>
    if E = "java/lang/IllegalArgumentException" then
      some (1, z3.2)
    else
      if E = "java/lang/IllegalStateException" then
        some (2, z3.2)
      else
        none
  ) (fun x4 =>
  (sJ z3.2 a2 0 (Int32.toInt64 x4)).bind fun Z7 =>
  some (0, Z7)
  ) z3.1
abbrev rm_L_append : Room := { frames := 8, cells := 2, slots := 12, locals := 125 }
set_option maxHeartbeats 4000000 in
set_option maxRecDepth 100000 in
theorem m_L_append (l : Launch) (hl0 : l.stackTraces = false) (D : va_G) (cy : Nat → ClassId) (sz : Nat) (S : St) (a0 : Nat) (a1 : Int32) (a2 : Nat) (r : Int32) (S1 : St) (h : f_L_append S a0 a1 a2 = some (r, S1)) : Met l yL_append (wsW yL_append cL_append 4 (some .int)  [(0, 9, 12, 13), (0, 9, 15, 15)]) rm_L_append (va_Pc [.ref a0, .int a1, .ref a2] (PNL D cy S sz)) (va_Qi (fun r' (_ : Unit) => r' = r) (fun _ t => PoS D cy S1 (dm S sz) t) (dm S sz)) 2 12 (dm S sz) := by
  refine va_MetW (cc := cL_append) (maxL := 4) (ret := (some .int)) (hh :=  [(0, 9, 12, 13), (0, 9, 15, 15)]) (by decide) rfl ?_
  intro p e s m args below meth c s₁ B hml hv
  obtain ⟨rfl, hsz, hP, hK, hE, hNC⟩ := hv
  have hx := B.exec
  have hb := B.bytes
  have hr := B.returns
  have hts9 := atoms_spec (ws := wsW yL_append cL_append 4 (some .int)  [(0, 9, 12, 13), (0, 9, 15, 15)]) B.pre
  have hts : ∀ w ∈ ALLW, w.before _ s = true := fun w h => hts9 w (List.mem_cons_of_mem _ h)
  have hex := vx_table (x := yL_append) B (hts9 _ List.mem_cons_self)
  have hown : s.vm.findClass RL = some m.cls := findClass_of_methodNamed B.named
  have hlocks := B.notSynchronized
  subst hsz
  have hD : ∀ a, S a ≠ none → dm S s.heap.size a := fun a h => Or.inl h
  have hA : ∀ q : Nat, s.heap.size ≤ q → dm S s.heap.size q := fun q h => Or.inr h
  have hS : va_S (dm S s.heap.size) s.heap s.heap [] := va_S.rf
  have hl := lv_entry [.ref a0, .int a1, .ref a2] (n := 4) (Nat.le_of_ble_eq_true rfl)
  rw [lg_entry_eq]
  generalize (lg_sl [.ref a0, .int a1, .ref a2] ++ List.replicate (4 - (lg_sl [.ref a0, .int a1, .ref a2]).length) Slot.unset).toArray = ls at hl ⊢
  have hl : lv_has ls 4 [(0, .ref a0), (1, .int a1), (2, .ref a2)] := hl
  rw [f_L_append] at h
  refine lv_aload_n hx hb dL_append_0 rfl (lv_at hl 2 rfl) ?_
  refine lv_iconst (v := 0) hx hb dL_append_1 (by decide) ?_
  refine lv_aload_n hx hb dL_append_2 rfl (lv_at hl 0 rfl) ?_
  refine lv_iload_n hx hb dL_append_3 rfl (lv_at hl 1 rfl) ?_
  replace h := bd h
  obtain ⟨_, q1, h⟩ := h
  replace h := bd h
  obtain ⟨z3, q2, h⟩ := h
  refine c_X6_append ⟨hx, hb, hml, hown, hts⟩ hl.1 hK hP hD hA hS hE hl0 wd_785 ⟨(Nat.le_of_ble_eq_true rfl), (Nat.le_of_ble_eq_true rfl)⟩ q2 q1 (Nat.le_of_ble_eq_true rfl) dL_append_4 ⟨(Nat.le_of_ble_eq_true rfl), (Nat.le_of_ble_eq_true rfl)⟩ (fun E ce qx9 H locs hx9 hP hD hS h1 h2 h3 => ?_) (fun x4 H locs hx9 hP hD hS => ?_)
  · replace h := sel_l hx9 h
    by_cases c5 : E = "java/lang/IllegalArgumentException"
    · replace h := ifp c5 h
      subst c5
      refine vx_catch hown [] ⟨0, 9, 12, 13⟩ [⟨0, 9, 15, 15⟩] hex (fun z hz => nomatch hz) (by decide) (by decide) (hts _ wd_473) (va_Nw.use rfl (hE.1 _ wn_487)) h1 h2 h3 ?_
      refine lv_astore_n (lv' := [(3, .ref qx9), (0, .ref a0), (1, .int a1), (2, .ref a2)]) hx hb dL_append_12 rfl hl (by decide) rfl (fun ls hl => ?_)
      refine lv_iconst (v := 1) hx hb dL_append_13 (by decide) ?_
      cases h
      exact e_im hx hb hlocks hr hP hD hS (Nat.le_of_ble_eq_true rfl) (Nat.le_of_ble_eq_true rfl) dL_append_14
    · replace h := ifn c5 h
      by_cases c6 : E = "java/lang/IllegalStateException"
      · replace h := ifp c6 h
        subst c6
        refine vx_catch hown [⟨0, 9, 12, 13⟩] ⟨0, 9, 15, 15⟩ [] hex (fun z hz => by cases hz with | head => exact Or.inr ⟨by decide, "java/lang/IllegalArgumentException", hts _ wd_473, hNC ("java/lang/IllegalStateException", "java/lang/IllegalArgumentException") (by decide)⟩ | tail _ hz => exact nomatch hz) (by decide) (by decide) (hts _ wd_474) (va_Nw.use rfl (hE.1 _ wn_563)) h1 h2 h3 ?_
        refine lv_astore_n (lv' := [(3, .ref qx9), (0, .ref a0), (1, .int a1), (2, .ref a2)]) hx hb dL_append_15 rfl hl (by decide) rfl (fun ls hl => ?_)
        refine lv_iconst (v := 2) hx hb dL_append_16 (by decide) ?_
        cases h
        exact e_im hx hb hlocks hr hP hD hS (Nat.le_of_ble_eq_true rfl) (Nat.le_of_ble_eq_true rfl) dL_append_17
      · replace h := ifn c6 h
        cases h
  · replace h := sel_r hx9 h
    refine lv_i2l (v := (Int32.toInt64 x4)) hx hb dL_append_7 rfl ?_
    replace h := bd h
    obtain ⟨Z7, q8, h⟩ := h
    refine r_sJ hx hb hK hP hD hS q8 dL_append_8 (fun H locs hz9 hP hD hS => ?_)
    refine lv_goto (tgt := 18) hx hb dL_append_9 (by decide) ?_
    refine lv_iconst (v := 0) hx hb dL_append_18 (by decide) ?_
    cases h
    exact e_im hx hb hlocks hr hP hD hS (Nat.le_of_ble_eq_true rfl) (Nat.le_of_ble_eq_true rfl) dL_append_19
set_option maxRecDepth 100000 in
theorem c_L_append {p : Program} {l : Launch} {e : Env} {R : Room} {s : State} {m : MethodId} {args : Array Value} {below : List Frame} {meth : Method} {c : Code} {H : Heap} {locs : List Loc} {cells slots : Nat} {Q : State → Prop} {cc : ByteArray} {pc index nL : Nat} {ls : Array Slot} {rest : List Value} {D : va_G} {cy : Nat → ClassId} {A0 : Nat → Prop} {S : St} {own : String} {a0 : Nat} {a1 : Int32} {a2 : Nat} {r : Int32} {S1 : St}  (hF : CallFix p m c cc nL s args ALLW own) (hsz : ls.size = nL) (hK : va_K D vwCl (tyL cy) s) (hP : SP D cy S H) (hD : ∀ a, S a ≠ none → A0 a) (hA : ∀ q, s.heap.size ≤ q → A0 q) (hS : va_S A0 s.heap H locs) (hE : ENV A0 s) (hNC : NCS s) (hl0 : l.stackTraces = false) (hk : Cond.methodLink own index yL_append ∈ ALLW) (hR : rm_L_append.frames + 1 ≤ R.frames ∧ 8 + (4 + 11) + rm_L_append.locals ≤ R.locals) (h : f_L_append S a0 a1 a2 = some (r, S1)) (hW : (rest.map fun v => v.category).sum ≤ 8) (hdg : decode cc pc = .ok (.invokestatic index, 3)) (hf : cells + 2 ≤ R.cells ∧ slots + 12 ≤ R.slots)
    (kk : ∀ (H1 : Heap) (locs1 : List Loc), SP D cy S1 H1 → (∀ a, S1 a ≠ none → A0 a) → va_S A0 s.heap H1 locs1 → W p l e R s m args below meth c H1 locs1 (cells + 2) (slots + 12) Q (F0 m (pc + 3) ls (.int r :: rest))) : W p l e R s m args below meth c H locs cells slots Q (F0 m pc ls (.ref a2 :: .int a1 :: .ref a0 :: rest)) := by
  exact k_W (As := [.ref a0, .int a1, .ref a2]) hF hsz (m_L_append l hl0 D cy H.size S a0 a1 a2 r S1 h) (cwW_of (n := 3) hF.2.2.2.2 hk wd_783 wd_68 wd_784 rfl rfl (by decide +kernel) hR) rfl hK hP hD hA hS hE hNC hW rfl hdg hf kk
/-- VowBlocksLaw.undo(LVowBlocks;[J)I -/
def f_L_undo (S : St) (a0 : Nat) (a1 : Nat) : Option (Int32 × St) :=
  (oO S a0 5).bind fun _ =>
  (f_X6_undo S a0).bind fun z3 =>
  Sum.elim (fun E =>
    if E = "java/lang/IllegalStateException" then
      some (1, z3.2)
    else
      none
  ) (fun x4 =>
  (sJ z3.2 a1 0 (Int32.toInt64 x4)).bind fun Z6 =>
  some (0, Z6)
  ) z3.1
abbrev rm_L_undo : Room := { frames := 7, cells := 1, slots := 6, locals := 106 }
set_option maxHeartbeats 4000000 in
set_option maxRecDepth 100000 in
theorem m_L_undo (l : Launch) (hl0 : l.stackTraces = false) (D : va_G) (cy : Nat → ClassId) (sz : Nat) (S : St) (a0 : Nat) (a1 : Nat) (r : Int32) (S1 : St) (h : f_L_undo S a0 a1 = some (r, S1)) : Met l yL_undo (wsW yL_undo cL_undo 3 (some .int)  [(0, 8, 11, 15)]) rm_L_undo (va_Pc [.ref a0, .ref a1] (PNL D cy S sz)) (va_Qi (fun r' (_ : Unit) => r' = r) (fun _ t => PoS D cy S1 (dm S sz) t) (dm S sz)) 1 6 (dm S sz) := by
  refine va_MetW (cc := cL_undo) (maxL := 3) (ret := (some .int)) (hh :=  [(0, 8, 11, 15)]) (by decide) rfl ?_
  intro p e s m args below meth c s₁ B hml hv
  obtain ⟨rfl, hsz, hP, hK, hE, hNC⟩ := hv
  have hx := B.exec
  have hb := B.bytes
  have hr := B.returns
  have hts9 := atoms_spec (ws := wsW yL_undo cL_undo 3 (some .int)  [(0, 8, 11, 15)]) B.pre
  have hts : ∀ w ∈ ALLW, w.before _ s = true := fun w h => hts9 w (List.mem_cons_of_mem _ h)
  have hex := vx_table (x := yL_undo) B (hts9 _ List.mem_cons_self)
  have hown : s.vm.findClass RL = some m.cls := findClass_of_methodNamed B.named
  have hlocks := B.notSynchronized
  subst hsz
  have hD : ∀ a, S a ≠ none → dm S s.heap.size a := fun a h => Or.inl h
  have hA : ∀ q : Nat, s.heap.size ≤ q → dm S s.heap.size q := fun q h => Or.inr h
  have hS : va_S (dm S s.heap.size) s.heap s.heap [] := va_S.rf
  have hl := lv_entry [.ref a0, .ref a1] (n := 3) (Nat.le_of_ble_eq_true rfl)
  rw [lg_entry_eq]
  generalize (lg_sl [.ref a0, .ref a1] ++ List.replicate (3 - (lg_sl [.ref a0, .ref a1]).length) Slot.unset).toArray = ls at hl ⊢
  have hl : lv_has ls 3 [(0, .ref a0), (1, .ref a1)] := hl
  rw [f_L_undo] at h
  refine lv_aload_n hx hb dL_undo_0 rfl (lv_at hl 1 rfl) ?_
  refine lv_iconst (v := 0) hx hb dL_undo_1 (by decide) ?_
  refine lv_aload_n hx hb dL_undo_2 rfl (lv_at hl 0 rfl) ?_
  replace h := bd h
  obtain ⟨_, q1, h⟩ := h
  replace h := bd h
  obtain ⟨z3, q2, h⟩ := h
  refine c_X6_undo ⟨hx, hb, hml, hown, hts⟩ hl.1 hK hP hD hA hS hE hl0 wd_802 ⟨(Nat.le_of_ble_eq_true rfl), (Nat.le_of_ble_eq_true rfl)⟩ q2 q1 (Nat.le_of_ble_eq_true rfl) dL_undo_3 ⟨(Nat.le_of_ble_eq_true rfl), (Nat.le_of_ble_eq_true rfl)⟩ (fun E ce qx9 H locs hx9 hP hD hS h1 h2 h3 => ?_) (fun x4 H locs hx9 hP hD hS => ?_)
  · replace h := sel_l hx9 h
    by_cases c5 : E = "java/lang/IllegalStateException"
    · replace h := ifp c5 h
      subst c5
      refine vx_catch hown [] ⟨0, 8, 11, 15⟩ [] hex (fun z hz => nomatch hz) (by decide) (by decide) (hts _ wd_474) (va_Nw.use rfl (hE.1 _ wn_563)) h1 h2 h3 ?_
      refine lv_astore_n (lv' := [(2, .ref qx9), (0, .ref a0), (1, .ref a1)]) hx hb dL_undo_11 rfl hl (by decide) rfl (fun ls hl => ?_)
      refine lv_iconst (v := 1) hx hb dL_undo_12 (by decide) ?_
      cases h
      exact e_im hx hb hlocks hr hP hD hS (Nat.le_of_ble_eq_true rfl) (Nat.le_of_ble_eq_true rfl) dL_undo_13
    · replace h := ifn c5 h
      cases h
  · replace h := sel_r hx9 h
    refine lv_i2l (v := (Int32.toInt64 x4)) hx hb dL_undo_6 rfl ?_
    replace h := bd h
    obtain ⟨Z6, q7, h⟩ := h
    refine r_sJ hx hb hK hP hD hS q7 dL_undo_7 (fun H locs hz9 hP hD hS => ?_)
    refine lv_goto (tgt := 14) hx hb dL_undo_8 (by decide) ?_
    refine lv_iconst (v := 0) hx hb dL_undo_14 (by decide) ?_
    cases h
    exact e_im hx hb hlocks hr hP hD hS (Nat.le_of_ble_eq_true rfl) (Nat.le_of_ble_eq_true rfl) dL_undo_15
set_option maxRecDepth 100000 in
theorem c_L_undo {p : Program} {l : Launch} {e : Env} {R : Room} {s : State} {m : MethodId} {args : Array Value} {below : List Frame} {meth : Method} {c : Code} {H : Heap} {locs : List Loc} {cells slots : Nat} {Q : State → Prop} {cc : ByteArray} {pc index nL : Nat} {ls : Array Slot} {rest : List Value} {D : va_G} {cy : Nat → ClassId} {A0 : Nat → Prop} {S : St} {own : String} {a0 : Nat} {a1 : Nat} {r : Int32} {S1 : St}  (hF : CallFix p m c cc nL s args ALLW own) (hsz : ls.size = nL) (hK : va_K D vwCl (tyL cy) s) (hP : SP D cy S H) (hD : ∀ a, S a ≠ none → A0 a) (hA : ∀ q, s.heap.size ≤ q → A0 q) (hS : va_S A0 s.heap H locs) (hE : ENV A0 s) (hNC : NCS s) (hl0 : l.stackTraces = false) (hk : Cond.methodLink own index yL_undo ∈ ALLW) (hR : rm_L_undo.frames + 1 ≤ R.frames ∧ 8 + (3 + 11) + rm_L_undo.locals ≤ R.locals) (h : f_L_undo S a0 a1 = some (r, S1)) (hW : (rest.map fun v => v.category).sum ≤ 8) (hdg : decode cc pc = .ok (.invokestatic index, 3)) (hf : cells + 1 ≤ R.cells ∧ slots + 6 ≤ R.slots)
    (kk : ∀ (H1 : Heap) (locs1 : List Loc), SP D cy S1 H1 → (∀ a, S1 a ≠ none → A0 a) → va_S A0 s.heap H1 locs1 → W p l e R s m args below meth c H1 locs1 (cells + 1) (slots + 6) Q (F0 m (pc + 3) ls (.int r :: rest))) : W p l e R s m args below meth c H locs cells slots Q (F0 m pc ls (.ref a1 :: .ref a0 :: rest)) := by
  exact k_W (As := [.ref a0, .ref a1]) hF hsz (m_L_undo l hl0 D cy H.size S a0 a1 r S1 h) (cwW_of (n := 2) hF.2.2.2.2 hk wd_800 wd_68 wd_801 rfl rfl (by decide +kernel) hR) rfl hK hP hD hA hS hE hNC hW rfl hdg hf kk
/-- VowBlocksLaw.block(LVowBlocks;II[J)I -/
def f_L_block (S : St) (a0 : Nat) (a1 : Int32) (a2 : Int32) (a3 : Nat) : Option (Int32 × St) :=
  (oO S a0 5).bind fun _ =>
  (f_X6_block S a0 a1 a2).bind fun z3 =>
  Sum.elim (fun E =>
    if E = "java/lang/IndexOutOfBoundsException" then
      some (1, S)
    else
      if E = "java/lang/IllegalArgumentException" then
        some (2, S)
      else
        none
  ) (fun x4 =>
  (sJ S a3 0 (Int32.toInt64 x4)).bind fun Z7 =>
  some (0, Z7)
  ) z3
abbrev rm_L_block : Room := { frames := 8, cells := 2, slots := 12, locals := 127 }
set_option maxHeartbeats 4000000 in
set_option maxRecDepth 100000 in
theorem m_L_block (l : Launch) (hl0 : l.stackTraces = false) (D : va_G) (cy : Nat → ClassId) (sz : Nat) (S : St) (a0 : Nat) (a1 : Int32) (a2 : Int32) (a3 : Nat) (r : Int32) (S1 : St) (h : f_L_block S a0 a1 a2 a3 = some (r, S1)) : Met l yL_block (wsW yL_block cL_block 5 (some .int)  [(0, 10, 13, 24), (0, 10, 17, 13)]) rm_L_block (va_Pc [.ref a0, .int a1, .int a2, .ref a3] (PNL D cy S sz)) (va_Qi (fun r' (_ : Unit) => r' = r) (fun _ t => PoS D cy S1 (dm S sz) t) (dm S sz)) 2 12 (dm S sz) := by
  refine va_MetW (cc := cL_block) (maxL := 5) (ret := (some .int)) (hh :=  [(0, 10, 13, 24), (0, 10, 17, 13)]) (by decide) rfl ?_
  intro p e s m args below meth c s₁ B hml hv
  obtain ⟨rfl, hsz, hP, hK, hE, hNC⟩ := hv
  have hx := B.exec
  have hb := B.bytes
  have hr := B.returns
  have hts9 := atoms_spec (ws := wsW yL_block cL_block 5 (some .int)  [(0, 10, 13, 24), (0, 10, 17, 13)]) B.pre
  have hts : ∀ w ∈ ALLW, w.before _ s = true := fun w h => hts9 w (List.mem_cons_of_mem _ h)
  have hex := vx_table (x := yL_block) B (hts9 _ List.mem_cons_self)
  have hown : s.vm.findClass RL = some m.cls := findClass_of_methodNamed B.named
  have hlocks := B.notSynchronized
  subst hsz
  have hD : ∀ a, S a ≠ none → dm S s.heap.size a := fun a h => Or.inl h
  have hA : ∀ q : Nat, s.heap.size ≤ q → dm S s.heap.size q := fun q h => Or.inr h
  have hS : va_S (dm S s.heap.size) s.heap s.heap [] := va_S.rf
  have hl := lv_entry [.ref a0, .int a1, .int a2, .ref a3] (n := 5) (Nat.le_of_ble_eq_true rfl)
  rw [lg_entry_eq]
  generalize (lg_sl [.ref a0, .int a1, .int a2, .ref a3] ++ List.replicate (5 - (lg_sl [.ref a0, .int a1, .int a2, .ref a3]).length) Slot.unset).toArray = ls at hl ⊢
  have hl : lv_has ls 5 [(0, .ref a0), (1, .int a1), (2, .int a2), (3, .ref a3)] := hl
  rw [f_L_block] at h
  refine lv_aload_n hx hb dL_block_0 rfl (lv_at hl 3 rfl) ?_
  refine lv_iconst (v := 0) hx hb dL_block_1 (by decide) ?_
  refine lv_aload_n hx hb dL_block_2 rfl (lv_at hl 0 rfl) ?_
  refine lv_iload_n hx hb dL_block_3 rfl (lv_at hl 1 rfl) ?_
  refine lv_iload_n hx hb dL_block_4 rfl (lv_at hl 2 rfl) ?_
  replace h := bd h
  obtain ⟨_, q1, h⟩ := h
  replace h := bd h
  obtain ⟨z3, q2, h⟩ := h
  refine c_X6_block ⟨hx, hb, hml, hown, hts⟩ hl.1 hK hP hS hE hl0 wd_814 ⟨(Nat.le_of_ble_eq_true rfl), (Nat.le_of_ble_eq_true rfl)⟩ q2 q1 (Nat.le_of_ble_eq_true rfl) dL_block_5 ⟨(Nat.le_of_ble_eq_true rfl), (Nat.le_of_ble_eq_true rfl)⟩ (fun E ce qx9 H locs hx9 hP hS h1 h2 h3 => ?_) (fun x4 H locs hx9 hP hS => ?_)
  · replace h := sel_l hx9 h
    by_cases c5 : E = "java/lang/IndexOutOfBoundsException"
    · replace h := ifp c5 h
      subst c5
      refine vx_catch hown [] ⟨0, 10, 13, 24⟩ [⟨0, 10, 17, 13⟩] hex (fun z hz => nomatch hz) (by decide) (by decide) (hts _ wd_633) (va_Nw.use rfl (hE.1 _ wn_645)) h1 h2 h3 ?_
      refine lv_astore (lv' := [(4, .ref qx9), (0, .ref a0), (1, .int a1), (2, .int a2), (3, .ref a3)]) hx hb dL_block_13 hl (by decide) rfl (fun ls hl => ?_)
      refine lv_iconst (v := 1) hx hb dL_block_15 (by decide) ?_
      cases h
      exact e_im hx hb hlocks hr hP hD hS (Nat.le_of_ble_eq_true rfl) (Nat.le_of_ble_eq_true rfl) dL_block_16
    · replace h := ifn c5 h
      by_cases c6 : E = "java/lang/IllegalArgumentException"
      · replace h := ifp c6 h
        subst c6
        refine vx_catch hown [⟨0, 10, 13, 24⟩] ⟨0, 10, 17, 13⟩ [] hex (fun z hz => by cases hz with | head => exact Or.inr ⟨by decide, "java/lang/IndexOutOfBoundsException", hts _ wd_633, hNC ("java/lang/IllegalArgumentException", "java/lang/IndexOutOfBoundsException") (by decide)⟩ | tail _ hz => exact nomatch hz) (by decide) (by decide) (hts _ wd_473) (va_Nw.use rfl (hE.1 _ wn_487)) h1 h2 h3 ?_
        refine lv_astore (lv' := [(4, .ref qx9), (0, .ref a0), (1, .int a1), (2, .int a2), (3, .ref a3)]) hx hb dL_block_17 hl (by decide) rfl (fun ls hl => ?_)
        refine lv_iconst (v := 2) hx hb dL_block_19 (by decide) ?_
        cases h
        exact e_im hx hb hlocks hr hP hD hS (Nat.le_of_ble_eq_true rfl) (Nat.le_of_ble_eq_true rfl) dL_block_20
      · replace h := ifn c6 h
        cases h
  · replace h := sel_r hx9 h
    refine lv_i2l (v := (Int32.toInt64 x4)) hx hb dL_block_8 rfl ?_
    replace h := bd h
    obtain ⟨Z7, q8, h⟩ := h
    refine r_sJ hx hb hK hP hD hS q8 dL_block_9 (fun H locs hz9 hP hD hS => ?_)
    refine lv_goto (tgt := 21) hx hb dL_block_10 (by decide) ?_
    refine lv_iconst (v := 0) hx hb dL_block_21 (by decide) ?_
    cases h
    exact e_im hx hb hlocks hr hP hD hS (Nat.le_of_ble_eq_true rfl) (Nat.le_of_ble_eq_true rfl) dL_block_22
set_option maxRecDepth 100000 in
theorem c_L_block {p : Program} {l : Launch} {e : Env} {R : Room} {s : State} {m : MethodId} {args : Array Value} {below : List Frame} {meth : Method} {c : Code} {H : Heap} {locs : List Loc} {cells slots : Nat} {Q : State → Prop} {cc : ByteArray} {pc index nL : Nat} {ls : Array Slot} {rest : List Value} {D : va_G} {cy : Nat → ClassId} {A0 : Nat → Prop} {S : St} {own : String} {a0 : Nat} {a1 : Int32} {a2 : Int32} {a3 : Nat} {r : Int32} {S1 : St}  (hF : CallFix p m c cc nL s args ALLW own) (hsz : ls.size = nL) (hK : va_K D vwCl (tyL cy) s) (hP : SP D cy S H) (hD : ∀ a, S a ≠ none → A0 a) (hA : ∀ q, s.heap.size ≤ q → A0 q) (hS : va_S A0 s.heap H locs) (hE : ENV A0 s) (hNC : NCS s) (hl0 : l.stackTraces = false) (hk : Cond.methodLink own index yL_block ∈ ALLW) (hR : rm_L_block.frames + 1 ≤ R.frames ∧ 8 + (5 + 11) + rm_L_block.locals ≤ R.locals) (h : f_L_block S a0 a1 a2 a3 = some (r, S1)) (hW : (rest.map fun v => v.category).sum ≤ 8) (hdg : decode cc pc = .ok (.invokestatic index, 3)) (hf : cells + 2 ≤ R.cells ∧ slots + 12 ≤ R.slots)
    (kk : ∀ (H1 : Heap) (locs1 : List Loc), SP D cy S1 H1 → (∀ a, S1 a ≠ none → A0 a) → va_S A0 s.heap H1 locs1 → W p l e R s m args below meth c H1 locs1 (cells + 2) (slots + 12) Q (F0 m (pc + 3) ls (.int r :: rest))) : W p l e R s m args below meth c H locs cells slots Q (F0 m pc ls (.ref a3 :: .int a2 :: .int a1 :: .ref a0 :: rest)) := by
  exact k_W (As := [.ref a0, .int a1, .int a2, .ref a3]) hF hsz (m_L_block l hl0 D cy H.size S a0 a1 a2 a3 r S1 h) (cwW_of (n := 4) hF.2.2.2.2 hk wd_812 wd_68 wd_813 rfl rfl (by decide +kernel) hR) rfl hK hP hD hA hS hE hNC hW rfl hdg hf kk
/-- VowBlocksLaw.value(LVowBlocks;II[J)I -/
def f_L_value (S : St) (a0 : Nat) (a1 : Int32) (a2 : Int32) (a3 : Nat) : Option (Int32 × St) :=
  (oO S a0 5).bind fun _ =>
  (f_X6_value S a0 a1 a2).bind fun z3 =>
  Sum.elim (fun E =>
    if E = "java/lang/IndexOutOfBoundsException" then
      some (1, S)
    else
      none
  ) (fun x4 =>
  (sJ S a3 0 (Int32.toInt64 x4)).bind fun Z6 =>
  some (0, Z6)
  ) z3
abbrev rm_L_value : Room := { frames := 9, cells := 2, slots := 12, locals := 148 }
set_option maxHeartbeats 4000000 in
set_option maxRecDepth 100000 in
theorem m_L_value (l : Launch) (hl0 : l.stackTraces = false) (D : va_G) (cy : Nat → ClassId) (sz : Nat) (S : St) (a0 : Nat) (a1 : Int32) (a2 : Int32) (a3 : Nat) (r : Int32) (S1 : St) (h : f_L_value S a0 a1 a2 a3 = some (r, S1)) : Met l yL_value (wsW yL_value cL_value 5 (some .int)  [(0, 10, 13, 24)]) rm_L_value (va_Pc [.ref a0, .int a1, .int a2, .ref a3] (PNL D cy S sz)) (va_Qi (fun r' (_ : Unit) => r' = r) (fun _ t => PoS D cy S1 (dm S sz) t) (dm S sz)) 2 12 (dm S sz) := by
  refine va_MetW (cc := cL_value) (maxL := 5) (ret := (some .int)) (hh :=  [(0, 10, 13, 24)]) (by decide) rfl ?_
  intro p e s m args below meth c s₁ B hml hv
  obtain ⟨rfl, hsz, hP, hK, hE, hNC⟩ := hv
  have hx := B.exec
  have hb := B.bytes
  have hr := B.returns
  have hts9 := atoms_spec (ws := wsW yL_value cL_value 5 (some .int)  [(0, 10, 13, 24)]) B.pre
  have hts : ∀ w ∈ ALLW, w.before _ s = true := fun w h => hts9 w (List.mem_cons_of_mem _ h)
  have hex := vx_table (x := yL_value) B (hts9 _ List.mem_cons_self)
  have hown : s.vm.findClass RL = some m.cls := findClass_of_methodNamed B.named
  have hlocks := B.notSynchronized
  subst hsz
  have hD : ∀ a, S a ≠ none → dm S s.heap.size a := fun a h => Or.inl h
  have hA : ∀ q : Nat, s.heap.size ≤ q → dm S s.heap.size q := fun q h => Or.inr h
  have hS : va_S (dm S s.heap.size) s.heap s.heap [] := va_S.rf
  have hl := lv_entry [.ref a0, .int a1, .int a2, .ref a3] (n := 5) (Nat.le_of_ble_eq_true rfl)
  rw [lg_entry_eq]
  generalize (lg_sl [.ref a0, .int a1, .int a2, .ref a3] ++ List.replicate (5 - (lg_sl [.ref a0, .int a1, .int a2, .ref a3]).length) Slot.unset).toArray = ls at hl ⊢
  have hl : lv_has ls 5 [(0, .ref a0), (1, .int a1), (2, .int a2), (3, .ref a3)] := hl
  rw [f_L_value] at h
  refine lv_aload_n hx hb dL_value_0 rfl (lv_at hl 3 rfl) ?_
  refine lv_iconst (v := 0) hx hb dL_value_1 (by decide) ?_
  refine lv_aload_n hx hb dL_value_2 rfl (lv_at hl 0 rfl) ?_
  refine lv_iload_n hx hb dL_value_3 rfl (lv_at hl 1 rfl) ?_
  refine lv_iload_n hx hb dL_value_4 rfl (lv_at hl 2 rfl) ?_
  replace h := bd h
  obtain ⟨_, q1, h⟩ := h
  replace h := bd h
  obtain ⟨z3, q2, h⟩ := h
  refine c_X6_value ⟨hx, hb, hml, hown, hts⟩ hl.1 hK hP hS hE hl0 wd_821 ⟨(Nat.le_of_ble_eq_true rfl), (Nat.le_of_ble_eq_true rfl)⟩ q2 q1 (Nat.le_of_ble_eq_true rfl) dL_value_5 ⟨(Nat.le_of_ble_eq_true rfl), (Nat.le_of_ble_eq_true rfl)⟩ (fun E ce qx9 H locs hx9 hP hS h1 h2 h3 => ?_) (fun x4 H locs hx9 hP hS => ?_)
  · replace h := sel_l hx9 h
    by_cases c5 : E = "java/lang/IndexOutOfBoundsException"
    · replace h := ifp c5 h
      subst c5
      refine vx_catch hown [] ⟨0, 10, 13, 24⟩ [] hex (fun z hz => nomatch hz) (by decide) (by decide) (hts _ wd_633) (va_Nw.use rfl (hE.1 _ wn_645)) h1 h2 h3 ?_
      refine lv_astore (lv' := [(4, .ref qx9), (0, .ref a0), (1, .int a1), (2, .int a2), (3, .ref a3)]) hx hb dL_value_13 hl (by decide) rfl (fun ls hl => ?_)
      refine lv_iconst (v := 1) hx hb dL_value_15 (by decide) ?_
      cases h
      exact e_im hx hb hlocks hr hP hD hS (Nat.le_of_ble_eq_true rfl) (Nat.le_of_ble_eq_true rfl) dL_value_16
    · replace h := ifn c5 h
      cases h
  · replace h := sel_r hx9 h
    refine lv_i2l (v := (Int32.toInt64 x4)) hx hb dL_value_8 rfl ?_
    replace h := bd h
    obtain ⟨Z6, q7, h⟩ := h
    refine r_sJ hx hb hK hP hD hS q7 dL_value_9 (fun H locs hz9 hP hD hS => ?_)
    refine lv_goto (tgt := 17) hx hb dL_value_10 (by decide) ?_
    refine lv_iconst (v := 0) hx hb dL_value_17 (by decide) ?_
    cases h
    exact e_im hx hb hlocks hr hP hD hS (Nat.le_of_ble_eq_true rfl) (Nat.le_of_ble_eq_true rfl) dL_value_18
set_option maxRecDepth 100000 in
theorem c_L_value {p : Program} {l : Launch} {e : Env} {R : Room} {s : State} {m : MethodId} {args : Array Value} {below : List Frame} {meth : Method} {c : Code} {H : Heap} {locs : List Loc} {cells slots : Nat} {Q : State → Prop} {cc : ByteArray} {pc index nL : Nat} {ls : Array Slot} {rest : List Value} {D : va_G} {cy : Nat → ClassId} {A0 : Nat → Prop} {S : St} {own : String} {a0 : Nat} {a1 : Int32} {a2 : Int32} {a3 : Nat} {r : Int32} {S1 : St}  (hF : CallFix p m c cc nL s args ALLW own) (hsz : ls.size = nL) (hK : va_K D vwCl (tyL cy) s) (hP : SP D cy S H) (hD : ∀ a, S a ≠ none → A0 a) (hA : ∀ q, s.heap.size ≤ q → A0 q) (hS : va_S A0 s.heap H locs) (hE : ENV A0 s) (hNC : NCS s) (hl0 : l.stackTraces = false) (hk : Cond.methodLink own index yL_value ∈ ALLW) (hR : rm_L_value.frames + 1 ≤ R.frames ∧ 8 + (5 + 11) + rm_L_value.locals ≤ R.locals) (h : f_L_value S a0 a1 a2 a3 = some (r, S1)) (hW : (rest.map fun v => v.category).sum ≤ 8) (hdg : decode cc pc = .ok (.invokestatic index, 3)) (hf : cells + 2 ≤ R.cells ∧ slots + 12 ≤ R.slots)
    (kk : ∀ (H1 : Heap) (locs1 : List Loc), SP D cy S1 H1 → (∀ a, S1 a ≠ none → A0 a) → va_S A0 s.heap H1 locs1 → W p l e R s m args below meth c H1 locs1 (cells + 2) (slots + 12) Q (F0 m (pc + 3) ls (.int r :: rest))) : W p l e R s m args below meth c H locs cells slots Q (F0 m pc ls (.ref a3 :: .int a2 :: .int a1 :: .ref a0 :: rest)) := by
  exact k_W (As := [.ref a0, .int a1, .int a2, .ref a3]) hF hsz (m_L_value l hl0 D cy H.size S a0 a1 a2 a3 r S1 h) (cwW_of (n := 4) hF.2.2.2.2 hk wd_819 wd_68 wd_820 rfl rfl (by decide +kernel) hR) rfl hK hP hD hA hS hE hNC hW rfl hdg hf kk
/-- VowBlocksLaw.count(LVowBlocks;I[J)I -/
def f_L_count (S : St) (a0 : Nat) (a1 : Int32) (a2 : Nat) : Option (Int32 × St) :=
  (oO S a0 5).bind fun _ =>
  (f_X6_count S a0 a1).bind fun z3 =>
  Sum.elim (fun E =>
    if E = "java/lang/IllegalArgumentException" then
      some (1, S)
    else
      none
  ) (fun x4 =>
  (sJ S a2 0 (Int32.toInt64 x4)).bind fun Z6 =>
  some (0, Z6)
  ) z3
abbrev rm_L_count : Room := { frames := 8, cells := 1, slots := 6, locals := 158 }
set_option maxHeartbeats 4000000 in
set_option maxRecDepth 100000 in
theorem m_L_count (l : Launch) (hl0 : l.stackTraces = false) (D : va_G) (cy : Nat → ClassId) (sz : Nat) (S : St) (a0 : Nat) (a1 : Int32) (a2 : Nat) (r : Int32) (S1 : St) (h : f_L_count S a0 a1 a2 = some (r, S1)) : Met l yL_count (wsW yL_count cL_count 4 (some .int)  [(0, 9, 12, 13)]) rm_L_count (va_Pc [.ref a0, .int a1, .ref a2] (PNL D cy S sz)) (va_Qi (fun r' (_ : Unit) => r' = r) (fun _ t => PoS D cy S1 (dm S sz) t) (dm S sz)) 1 6 (dm S sz) := by
  refine va_MetW (cc := cL_count) (maxL := 4) (ret := (some .int)) (hh :=  [(0, 9, 12, 13)]) (by decide) rfl ?_
  intro p e s m args below meth c s₁ B hml hv
  obtain ⟨rfl, hsz, hP, hK, hE, hNC⟩ := hv
  have hx := B.exec
  have hb := B.bytes
  have hr := B.returns
  have hts9 := atoms_spec (ws := wsW yL_count cL_count 4 (some .int)  [(0, 9, 12, 13)]) B.pre
  have hts : ∀ w ∈ ALLW, w.before _ s = true := fun w h => hts9 w (List.mem_cons_of_mem _ h)
  have hex := vx_table (x := yL_count) B (hts9 _ List.mem_cons_self)
  have hown : s.vm.findClass RL = some m.cls := findClass_of_methodNamed B.named
  have hlocks := B.notSynchronized
  subst hsz
  have hD : ∀ a, S a ≠ none → dm S s.heap.size a := fun a h => Or.inl h
  have hA : ∀ q : Nat, s.heap.size ≤ q → dm S s.heap.size q := fun q h => Or.inr h
  have hS : va_S (dm S s.heap.size) s.heap s.heap [] := va_S.rf
  have hl := lv_entry [.ref a0, .int a1, .ref a2] (n := 4) (Nat.le_of_ble_eq_true rfl)
  rw [lg_entry_eq]
  generalize (lg_sl [.ref a0, .int a1, .ref a2] ++ List.replicate (4 - (lg_sl [.ref a0, .int a1, .ref a2]).length) Slot.unset).toArray = ls at hl ⊢
  have hl : lv_has ls 4 [(0, .ref a0), (1, .int a1), (2, .ref a2)] := hl
  rw [f_L_count] at h
  refine lv_aload_n hx hb dL_count_0 rfl (lv_at hl 2 rfl) ?_
  refine lv_iconst (v := 0) hx hb dL_count_1 (by decide) ?_
  refine lv_aload_n hx hb dL_count_2 rfl (lv_at hl 0 rfl) ?_
  refine lv_iload_n hx hb dL_count_3 rfl (lv_at hl 1 rfl) ?_
  replace h := bd h
  obtain ⟨_, q1, h⟩ := h
  replace h := bd h
  obtain ⟨z3, q2, h⟩ := h
  refine c_X6_count ⟨hx, hb, hml, hown, hts⟩ hl.1 hK hP hS hE hl0 wd_828 ⟨(Nat.le_of_ble_eq_true rfl), (Nat.le_of_ble_eq_true rfl)⟩ q2 q1 (Nat.le_of_ble_eq_true rfl) dL_count_4 ⟨(Nat.le_of_ble_eq_true rfl), (Nat.le_of_ble_eq_true rfl)⟩ (fun E ce qx9 H locs hx9 hP hS h1 h2 h3 => ?_) (fun x4 H locs hx9 hP hS => ?_)
  · replace h := sel_l hx9 h
    by_cases c5 : E = "java/lang/IllegalArgumentException"
    · replace h := ifp c5 h
      subst c5
      refine vx_catch hown [] ⟨0, 9, 12, 13⟩ [] hex (fun z hz => nomatch hz) (by decide) (by decide) (hts _ wd_473) (va_Nw.use rfl (hE.1 _ wn_487)) h1 h2 h3 ?_
      refine lv_astore_n (lv' := [(3, .ref qx9), (0, .ref a0), (1, .int a1), (2, .ref a2)]) hx hb dL_count_12 rfl hl (by decide) rfl (fun ls hl => ?_)
      refine lv_iconst (v := 1) hx hb dL_count_13 (by decide) ?_
      cases h
      exact e_im hx hb hlocks hr hP hD hS (Nat.le_of_ble_eq_true rfl) (Nat.le_of_ble_eq_true rfl) dL_count_14
    · replace h := ifn c5 h
      cases h
  · replace h := sel_r hx9 h
    refine lv_i2l (v := (Int32.toInt64 x4)) hx hb dL_count_7 rfl ?_
    replace h := bd h
    obtain ⟨Z6, q7, h⟩ := h
    refine r_sJ hx hb hK hP hD hS q7 dL_count_8 (fun H locs hz9 hP hD hS => ?_)
    refine lv_goto (tgt := 15) hx hb dL_count_9 (by decide) ?_
    refine lv_iconst (v := 0) hx hb dL_count_15 (by decide) ?_
    cases h
    exact e_im hx hb hlocks hr hP hD hS (Nat.le_of_ble_eq_true rfl) (Nat.le_of_ble_eq_true rfl) dL_count_16
set_option maxRecDepth 100000 in
theorem c_L_count {p : Program} {l : Launch} {e : Env} {R : Room} {s : State} {m : MethodId} {args : Array Value} {below : List Frame} {meth : Method} {c : Code} {H : Heap} {locs : List Loc} {cells slots : Nat} {Q : State → Prop} {cc : ByteArray} {pc index nL : Nat} {ls : Array Slot} {rest : List Value} {D : va_G} {cy : Nat → ClassId} {A0 : Nat → Prop} {S : St} {own : String} {a0 : Nat} {a1 : Int32} {a2 : Nat} {r : Int32} {S1 : St}  (hF : CallFix p m c cc nL s args ALLW own) (hsz : ls.size = nL) (hK : va_K D vwCl (tyL cy) s) (hP : SP D cy S H) (hD : ∀ a, S a ≠ none → A0 a) (hA : ∀ q, s.heap.size ≤ q → A0 q) (hS : va_S A0 s.heap H locs) (hE : ENV A0 s) (hNC : NCS s) (hl0 : l.stackTraces = false) (hk : Cond.methodLink own index yL_count ∈ ALLW) (hR : rm_L_count.frames + 1 ≤ R.frames ∧ 8 + (4 + 11) + rm_L_count.locals ≤ R.locals) (h : f_L_count S a0 a1 a2 = some (r, S1)) (hW : (rest.map fun v => v.category).sum ≤ 8) (hdg : decode cc pc = .ok (.invokestatic index, 3)) (hf : cells + 1 ≤ R.cells ∧ slots + 6 ≤ R.slots)
    (kk : ∀ (H1 : Heap) (locs1 : List Loc), SP D cy S1 H1 → (∀ a, S1 a ≠ none → A0 a) → va_S A0 s.heap H1 locs1 → W p l e R s m args below meth c H1 locs1 (cells + 1) (slots + 6) Q (F0 m (pc + 3) ls (.int r :: rest))) : W p l e R s m args below meth c H locs cells slots Q (F0 m pc ls (.ref a2 :: .int a1 :: .ref a0 :: rest)) := by
  exact k_W (As := [.ref a0, .int a1, .ref a2]) hF hsz (m_L_count l hl0 D cy H.size S a0 a1 a2 r S1 h) (cwW_of (n := 3) hF.2.2.2.2 hk wd_826 wd_68 wd_827 rfl rfl (by decide +kernel) hR) rfl hK hP hD hA hS hE hNC hW rfl hdg hf kk
/-- VowBlocksLaw.setting(LVowBlocks;I[J)I -/
def f_L_setting (S : St) (a0 : Nat) (a1 : Int32) (a2 : Nat) : Option (Int32 × St) :=
  (oO S a0 5).bind fun _ =>
  (f_X6_setting S a0 a1).bind fun z3 =>
  Sum.elim (fun E =>
    if E = "java/lang/IndexOutOfBoundsException" then
      some (1, S)
    else
      none
  ) (fun x4 =>
  (sJ S a2 0 (Int32.toInt64 x4)).bind fun Z6 =>
  some (0, Z6)
  ) z3
abbrev rm_L_setting : Room := { frames := 8, cells := 1, slots := 6, locals := 124 }
set_option maxHeartbeats 4000000 in
set_option maxRecDepth 100000 in
theorem m_L_setting (l : Launch) (hl0 : l.stackTraces = false) (D : va_G) (cy : Nat → ClassId) (sz : Nat) (S : St) (a0 : Nat) (a1 : Int32) (a2 : Nat) (r : Int32) (S1 : St) (h : f_L_setting S a0 a1 a2 = some (r, S1)) : Met l yL_setting (wsW yL_setting cL_setting 4 (some .int)  [(0, 9, 12, 24)]) rm_L_setting (va_Pc [.ref a0, .int a1, .ref a2] (PNL D cy S sz)) (va_Qi (fun r' (_ : Unit) => r' = r) (fun _ t => PoS D cy S1 (dm S sz) t) (dm S sz)) 1 6 (dm S sz) := by
  refine va_MetW (cc := cL_setting) (maxL := 4) (ret := (some .int)) (hh :=  [(0, 9, 12, 24)]) (by decide) rfl ?_
  intro p e s m args below meth c s₁ B hml hv
  obtain ⟨rfl, hsz, hP, hK, hE, hNC⟩ := hv
  have hx := B.exec
  have hb := B.bytes
  have hr := B.returns
  have hts9 := atoms_spec (ws := wsW yL_setting cL_setting 4 (some .int)  [(0, 9, 12, 24)]) B.pre
  have hts : ∀ w ∈ ALLW, w.before _ s = true := fun w h => hts9 w (List.mem_cons_of_mem _ h)
  have hex := vx_table (x := yL_setting) B (hts9 _ List.mem_cons_self)
  have hown : s.vm.findClass RL = some m.cls := findClass_of_methodNamed B.named
  have hlocks := B.notSynchronized
  subst hsz
  have hD : ∀ a, S a ≠ none → dm S s.heap.size a := fun a h => Or.inl h
  have hA : ∀ q : Nat, s.heap.size ≤ q → dm S s.heap.size q := fun q h => Or.inr h
  have hS : va_S (dm S s.heap.size) s.heap s.heap [] := va_S.rf
  have hl := lv_entry [.ref a0, .int a1, .ref a2] (n := 4) (Nat.le_of_ble_eq_true rfl)
  rw [lg_entry_eq]
  generalize (lg_sl [.ref a0, .int a1, .ref a2] ++ List.replicate (4 - (lg_sl [.ref a0, .int a1, .ref a2]).length) Slot.unset).toArray = ls at hl ⊢
  have hl : lv_has ls 4 [(0, .ref a0), (1, .int a1), (2, .ref a2)] := hl
  rw [f_L_setting] at h
  refine lv_aload_n hx hb dL_setting_0 rfl (lv_at hl 2 rfl) ?_
  refine lv_iconst (v := 0) hx hb dL_setting_1 (by decide) ?_
  refine lv_aload_n hx hb dL_setting_2 rfl (lv_at hl 0 rfl) ?_
  refine lv_iload_n hx hb dL_setting_3 rfl (lv_at hl 1 rfl) ?_
  replace h := bd h
  obtain ⟨_, q1, h⟩ := h
  replace h := bd h
  obtain ⟨z3, q2, h⟩ := h
  refine c_X6_setting ⟨hx, hb, hml, hown, hts⟩ hl.1 hK hP hS hE hl0 wd_835 ⟨(Nat.le_of_ble_eq_true rfl), (Nat.le_of_ble_eq_true rfl)⟩ q2 q1 (Nat.le_of_ble_eq_true rfl) dL_setting_4 ⟨(Nat.le_of_ble_eq_true rfl), (Nat.le_of_ble_eq_true rfl)⟩ (fun E ce qx9 H locs hx9 hP hS h1 h2 h3 => ?_) (fun x4 H locs hx9 hP hS => ?_)
  · replace h := sel_l hx9 h
    by_cases c5 : E = "java/lang/IndexOutOfBoundsException"
    · replace h := ifp c5 h
      subst c5
      refine vx_catch hown [] ⟨0, 9, 12, 24⟩ [] hex (fun z hz => nomatch hz) (by decide) (by decide) (hts _ wd_633) (va_Nw.use rfl (hE.1 _ wn_645)) h1 h2 h3 ?_
      refine lv_astore_n (lv' := [(3, .ref qx9), (0, .ref a0), (1, .int a1), (2, .ref a2)]) hx hb dL_setting_12 rfl hl (by decide) rfl (fun ls hl => ?_)
      refine lv_iconst (v := 1) hx hb dL_setting_13 (by decide) ?_
      cases h
      exact e_im hx hb hlocks hr hP hD hS (Nat.le_of_ble_eq_true rfl) (Nat.le_of_ble_eq_true rfl) dL_setting_14
    · replace h := ifn c5 h
      cases h
  · replace h := sel_r hx9 h
    refine lv_i2l (v := (Int32.toInt64 x4)) hx hb dL_setting_7 rfl ?_
    replace h := bd h
    obtain ⟨Z6, q7, h⟩ := h
    refine r_sJ hx hb hK hP hD hS q7 dL_setting_8 (fun H locs hz9 hP hD hS => ?_)
    refine lv_goto (tgt := 15) hx hb dL_setting_9 (by decide) ?_
    refine lv_iconst (v := 0) hx hb dL_setting_15 (by decide) ?_
    cases h
    exact e_im hx hb hlocks hr hP hD hS (Nat.le_of_ble_eq_true rfl) (Nat.le_of_ble_eq_true rfl) dL_setting_16
set_option maxRecDepth 100000 in
theorem c_L_setting {p : Program} {l : Launch} {e : Env} {R : Room} {s : State} {m : MethodId} {args : Array Value} {below : List Frame} {meth : Method} {c : Code} {H : Heap} {locs : List Loc} {cells slots : Nat} {Q : State → Prop} {cc : ByteArray} {pc index nL : Nat} {ls : Array Slot} {rest : List Value} {D : va_G} {cy : Nat → ClassId} {A0 : Nat → Prop} {S : St} {own : String} {a0 : Nat} {a1 : Int32} {a2 : Nat} {r : Int32} {S1 : St}  (hF : CallFix p m c cc nL s args ALLW own) (hsz : ls.size = nL) (hK : va_K D vwCl (tyL cy) s) (hP : SP D cy S H) (hD : ∀ a, S a ≠ none → A0 a) (hA : ∀ q, s.heap.size ≤ q → A0 q) (hS : va_S A0 s.heap H locs) (hE : ENV A0 s) (hNC : NCS s) (hl0 : l.stackTraces = false) (hk : Cond.methodLink own index yL_setting ∈ ALLW) (hR : rm_L_setting.frames + 1 ≤ R.frames ∧ 8 + (4 + 11) + rm_L_setting.locals ≤ R.locals) (h : f_L_setting S a0 a1 a2 = some (r, S1)) (hW : (rest.map fun v => v.category).sum ≤ 8) (hdg : decode cc pc = .ok (.invokestatic index, 3)) (hf : cells + 1 ≤ R.cells ∧ slots + 6 ≤ R.slots)
    (kk : ∀ (H1 : Heap) (locs1 : List Loc), SP D cy S1 H1 → (∀ a, S1 a ≠ none → A0 a) → va_S A0 s.heap H1 locs1 → W p l e R s m args below meth c H1 locs1 (cells + 1) (slots + 6) Q (F0 m (pc + 3) ls (.int r :: rest))) : W p l e R s m args below meth c H locs cells slots Q (F0 m pc ls (.ref a2 :: .int a1 :: .ref a0 :: rest)) := by
  exact k_W (As := [.ref a0, .int a1, .ref a2]) hF hsz (m_L_setting l hl0 D cy H.size S a0 a1 a2 r S1 h) (cwW_of (n := 3) hF.2.2.2.2 hk wd_833 wd_68 wd_834 rfl rfl (by decide +kernel) hR) rfl hK hP hD hA hS hE hNC hW rfl hdg hf kk
/-- VowBlocksLaw.cost(LVowBlocks;II[J)I -/
def f_L_cost (S : St) (a0 : Nat) (a1 : Int32) (a2 : Int32) (a3 : Nat) : Option (Int32 × St) :=
  (oO S a0 5).bind fun _ =>
  (f_X6_cost S a0 a1 a2).bind fun z3 =>
  Sum.elim (fun E =>
    if E = "java/lang/IndexOutOfBoundsException" then
      some (1, S)
    else
      if E = "java/lang/IllegalArgumentException" then
        some (2, S)
      else
        none
  ) (fun x4 =>
  (sJ S a3 0 (Int32.toInt64 x4)).bind fun Z7 =>
  some (0, Z7)
  ) z3
abbrev rm_L_cost : Room := { frames := 8, cells := 2, slots := 12, locals := 127 }
set_option maxHeartbeats 4000000 in
set_option maxRecDepth 100000 in
theorem m_L_cost (l : Launch) (hl0 : l.stackTraces = false) (D : va_G) (cy : Nat → ClassId) (sz : Nat) (S : St) (a0 : Nat) (a1 : Int32) (a2 : Int32) (a3 : Nat) (r : Int32) (S1 : St) (h : f_L_cost S a0 a1 a2 a3 = some (r, S1)) : Met l yL_cost (wsW yL_cost cL_cost 5 (some .int)  [(0, 10, 13, 24), (0, 10, 17, 13)]) rm_L_cost (va_Pc [.ref a0, .int a1, .int a2, .ref a3] (PNL D cy S sz)) (va_Qi (fun r' (_ : Unit) => r' = r) (fun _ t => PoS D cy S1 (dm S sz) t) (dm S sz)) 2 12 (dm S sz) := by
  refine va_MetW (cc := cL_cost) (maxL := 5) (ret := (some .int)) (hh :=  [(0, 10, 13, 24), (0, 10, 17, 13)]) (by decide) rfl ?_
  intro p e s m args below meth c s₁ B hml hv
  obtain ⟨rfl, hsz, hP, hK, hE, hNC⟩ := hv
  have hx := B.exec
  have hb := B.bytes
  have hr := B.returns
  have hts9 := atoms_spec (ws := wsW yL_cost cL_cost 5 (some .int)  [(0, 10, 13, 24), (0, 10, 17, 13)]) B.pre
  have hts : ∀ w ∈ ALLW, w.before _ s = true := fun w h => hts9 w (List.mem_cons_of_mem _ h)
  have hex := vx_table (x := yL_cost) B (hts9 _ List.mem_cons_self)
  have hown : s.vm.findClass RL = some m.cls := findClass_of_methodNamed B.named
  have hlocks := B.notSynchronized
  subst hsz
  have hD : ∀ a, S a ≠ none → dm S s.heap.size a := fun a h => Or.inl h
  have hA : ∀ q : Nat, s.heap.size ≤ q → dm S s.heap.size q := fun q h => Or.inr h
  have hS : va_S (dm S s.heap.size) s.heap s.heap [] := va_S.rf
  have hl := lv_entry [.ref a0, .int a1, .int a2, .ref a3] (n := 5) (Nat.le_of_ble_eq_true rfl)
  rw [lg_entry_eq]
  generalize (lg_sl [.ref a0, .int a1, .int a2, .ref a3] ++ List.replicate (5 - (lg_sl [.ref a0, .int a1, .int a2, .ref a3]).length) Slot.unset).toArray = ls at hl ⊢
  have hl : lv_has ls 5 [(0, .ref a0), (1, .int a1), (2, .int a2), (3, .ref a3)] := hl
  rw [f_L_cost] at h
  refine lv_aload_n hx hb dL_cost_0 rfl (lv_at hl 3 rfl) ?_
  refine lv_iconst (v := 0) hx hb dL_cost_1 (by decide) ?_
  refine lv_aload_n hx hb dL_cost_2 rfl (lv_at hl 0 rfl) ?_
  refine lv_iload_n hx hb dL_cost_3 rfl (lv_at hl 1 rfl) ?_
  refine lv_iload_n hx hb dL_cost_4 rfl (lv_at hl 2 rfl) ?_
  replace h := bd h
  obtain ⟨_, q1, h⟩ := h
  replace h := bd h
  obtain ⟨z3, q2, h⟩ := h
  refine c_X6_cost ⟨hx, hb, hml, hown, hts⟩ hl.1 hK hP hS hE hl0 wd_842 ⟨(Nat.le_of_ble_eq_true rfl), (Nat.le_of_ble_eq_true rfl)⟩ q2 q1 (Nat.le_of_ble_eq_true rfl) dL_cost_5 ⟨(Nat.le_of_ble_eq_true rfl), (Nat.le_of_ble_eq_true rfl)⟩ (fun E ce qx9 H locs hx9 hP hS h1 h2 h3 => ?_) (fun x4 H locs hx9 hP hS => ?_)
  · replace h := sel_l hx9 h
    by_cases c5 : E = "java/lang/IndexOutOfBoundsException"
    · replace h := ifp c5 h
      subst c5
      refine vx_catch hown [] ⟨0, 10, 13, 24⟩ [⟨0, 10, 17, 13⟩] hex (fun z hz => nomatch hz) (by decide) (by decide) (hts _ wd_633) (va_Nw.use rfl (hE.1 _ wn_645)) h1 h2 h3 ?_
      refine lv_astore (lv' := [(4, .ref qx9), (0, .ref a0), (1, .int a1), (2, .int a2), (3, .ref a3)]) hx hb dL_cost_13 hl (by decide) rfl (fun ls hl => ?_)
      refine lv_iconst (v := 1) hx hb dL_cost_15 (by decide) ?_
      cases h
      exact e_im hx hb hlocks hr hP hD hS (Nat.le_of_ble_eq_true rfl) (Nat.le_of_ble_eq_true rfl) dL_cost_16
    · replace h := ifn c5 h
      by_cases c6 : E = "java/lang/IllegalArgumentException"
      · replace h := ifp c6 h
        subst c6
        refine vx_catch hown [⟨0, 10, 13, 24⟩] ⟨0, 10, 17, 13⟩ [] hex (fun z hz => by cases hz with | head => exact Or.inr ⟨by decide, "java/lang/IndexOutOfBoundsException", hts _ wd_633, hNC ("java/lang/IllegalArgumentException", "java/lang/IndexOutOfBoundsException") (by decide)⟩ | tail _ hz => exact nomatch hz) (by decide) (by decide) (hts _ wd_473) (va_Nw.use rfl (hE.1 _ wn_487)) h1 h2 h3 ?_
        refine lv_astore (lv' := [(4, .ref qx9), (0, .ref a0), (1, .int a1), (2, .int a2), (3, .ref a3)]) hx hb dL_cost_17 hl (by decide) rfl (fun ls hl => ?_)
        refine lv_iconst (v := 2) hx hb dL_cost_19 (by decide) ?_
        cases h
        exact e_im hx hb hlocks hr hP hD hS (Nat.le_of_ble_eq_true rfl) (Nat.le_of_ble_eq_true rfl) dL_cost_20
      · replace h := ifn c6 h
        cases h
  · replace h := sel_r hx9 h
    refine lv_i2l (v := (Int32.toInt64 x4)) hx hb dL_cost_8 rfl ?_
    replace h := bd h
    obtain ⟨Z7, q8, h⟩ := h
    refine r_sJ hx hb hK hP hD hS q8 dL_cost_9 (fun H locs hz9 hP hD hS => ?_)
    refine lv_goto (tgt := 21) hx hb dL_cost_10 (by decide) ?_
    refine lv_iconst (v := 0) hx hb dL_cost_21 (by decide) ?_
    cases h
    exact e_im hx hb hlocks hr hP hD hS (Nat.le_of_ble_eq_true rfl) (Nat.le_of_ble_eq_true rfl) dL_cost_22
set_option maxRecDepth 100000 in
theorem c_L_cost {p : Program} {l : Launch} {e : Env} {R : Room} {s : State} {m : MethodId} {args : Array Value} {below : List Frame} {meth : Method} {c : Code} {H : Heap} {locs : List Loc} {cells slots : Nat} {Q : State → Prop} {cc : ByteArray} {pc index nL : Nat} {ls : Array Slot} {rest : List Value} {D : va_G} {cy : Nat → ClassId} {A0 : Nat → Prop} {S : St} {own : String} {a0 : Nat} {a1 : Int32} {a2 : Int32} {a3 : Nat} {r : Int32} {S1 : St}  (hF : CallFix p m c cc nL s args ALLW own) (hsz : ls.size = nL) (hK : va_K D vwCl (tyL cy) s) (hP : SP D cy S H) (hD : ∀ a, S a ≠ none → A0 a) (hA : ∀ q, s.heap.size ≤ q → A0 q) (hS : va_S A0 s.heap H locs) (hE : ENV A0 s) (hNC : NCS s) (hl0 : l.stackTraces = false) (hk : Cond.methodLink own index yL_cost ∈ ALLW) (hR : rm_L_cost.frames + 1 ≤ R.frames ∧ 8 + (5 + 11) + rm_L_cost.locals ≤ R.locals) (h : f_L_cost S a0 a1 a2 a3 = some (r, S1)) (hW : (rest.map fun v => v.category).sum ≤ 8) (hdg : decode cc pc = .ok (.invokestatic index, 3)) (hf : cells + 2 ≤ R.cells ∧ slots + 12 ≤ R.slots)
    (kk : ∀ (H1 : Heap) (locs1 : List Loc), SP D cy S1 H1 → (∀ a, S1 a ≠ none → A0 a) → va_S A0 s.heap H1 locs1 → W p l e R s m args below meth c H1 locs1 (cells + 2) (slots + 12) Q (F0 m (pc + 3) ls (.int r :: rest))) : W p l e R s m args below meth c H locs cells slots Q (F0 m pc ls (.ref a3 :: .int a2 :: .int a1 :: .ref a0 :: rest)) := by
  exact k_W (As := [.ref a0, .int a1, .int a2, .ref a3]) hF hsz (m_L_cost l hl0 D cy H.size S a0 a1 a2 a3 r S1 h) (cwW_of (n := 4) hF.2.2.2.2 hk wd_840 wd_68 wd_841 rfl rfl (by decide +kernel) hR) rfl hK hP hD hA hS hE hNC hW rfl hdg hf kk
/-- VowBlocksLaw.work(LVowBlocks;IIII[J)I -/
def f_L_work (S : St) (a0 : Nat) (a1 : Int32) (a2 : Int32) (a3 : Int32) (a4 : Int32) (a5 : Nat) : Option (Int32 × St) :=
  (oO S a0 5).bind fun _ =>
  (f_X6_work S a0 a1 a2 a3 a4).bind fun z3 =>
  Sum.elim (fun E =>
    if E = "java/lang/IndexOutOfBoundsException" then
      some (1, S)
    else
      if E = "java/lang/IllegalArgumentException" then
        some (2, S)
      else
        none
  ) (fun x4 =>
  (sJ S a5 0 (Int32.toInt64 x4)).bind fun Z7 =>
  some (0, Z7)
  ) z3
abbrev rm_L_work : Room := { frames := 10, cells := 4, slots := 24, locals := 170 }
set_option maxHeartbeats 4000000 in
set_option maxRecDepth 100000 in
theorem m_L_work (l : Launch) (hl0 : l.stackTraces = false) (D : va_G) (cy : Nat → ClassId) (sz : Nat) (S : St) (a0 : Nat) (a1 : Int32) (a2 : Int32) (a3 : Int32) (a4 : Int32) (a5 : Nat) (r : Int32) (S1 : St) (h : f_L_work S a0 a1 a2 a3 a4 a5 = some (r, S1)) : Met l yL_work (wsW yL_work cL_work 7 (some .int)  [(0, 14, 17, 24), (0, 14, 21, 13)]) rm_L_work (va_Pc [.ref a0, .int a1, .int a2, .int a3, .int a4, .ref a5] (PNL D cy S sz)) (va_Qi (fun r' (_ : Unit) => r' = r) (fun _ t => PoS D cy S1 (dm S sz) t) (dm S sz)) 4 24 (dm S sz) := by
  refine va_MetW (cc := cL_work) (maxL := 7) (ret := (some .int)) (hh :=  [(0, 14, 17, 24), (0, 14, 21, 13)]) (by decide) rfl ?_
  intro p e s m args below meth c s₁ B hml hv
  obtain ⟨rfl, hsz, hP, hK, hE, hNC⟩ := hv
  have hx := B.exec
  have hb := B.bytes
  have hr := B.returns
  have hts9 := atoms_spec (ws := wsW yL_work cL_work 7 (some .int)  [(0, 14, 17, 24), (0, 14, 21, 13)]) B.pre
  have hts : ∀ w ∈ ALLW, w.before _ s = true := fun w h => hts9 w (List.mem_cons_of_mem _ h)
  have hex := vx_table (x := yL_work) B (hts9 _ List.mem_cons_self)
  have hown : s.vm.findClass RL = some m.cls := findClass_of_methodNamed B.named
  have hlocks := B.notSynchronized
  subst hsz
  have hD : ∀ a, S a ≠ none → dm S s.heap.size a := fun a h => Or.inl h
  have hA : ∀ q : Nat, s.heap.size ≤ q → dm S s.heap.size q := fun q h => Or.inr h
  have hS : va_S (dm S s.heap.size) s.heap s.heap [] := va_S.rf
  have hl := lv_entry [.ref a0, .int a1, .int a2, .int a3, .int a4, .ref a5] (n := 7) (Nat.le_of_ble_eq_true rfl)
  rw [lg_entry_eq]
  generalize (lg_sl [.ref a0, .int a1, .int a2, .int a3, .int a4, .ref a5] ++ List.replicate (7 - (lg_sl [.ref a0, .int a1, .int a2, .int a3, .int a4, .ref a5]).length) Slot.unset).toArray = ls at hl ⊢
  have hl : lv_has ls 7 [(0, .ref a0), (1, .int a1), (2, .int a2), (3, .int a3), (4, .int a4), (5, .ref a5)] := hl
  rw [f_L_work] at h
  refine lv_aload hx hb dL_work_0 (lv_at hl 5 rfl) ?_
  refine lv_iconst (v := 0) hx hb dL_work_2 (by decide) ?_
  refine lv_aload_n hx hb dL_work_3 rfl (lv_at hl 0 rfl) ?_
  refine lv_iload_n hx hb dL_work_4 rfl (lv_at hl 1 rfl) ?_
  refine lv_iload_n hx hb dL_work_5 rfl (lv_at hl 2 rfl) ?_
  refine lv_iload_n hx hb dL_work_6 rfl (lv_at hl 3 rfl) ?_
  refine lv_iload hx hb dL_work_7 (lv_at hl 4 rfl) ?_
  replace h := bd h
  obtain ⟨_, q1, h⟩ := h
  replace h := bd h
  obtain ⟨z3, q2, h⟩ := h
  refine c_X6_work ⟨hx, hb, hml, hown, hts⟩ hl.1 hK hP hS hE hl0 wd_849 ⟨(Nat.le_of_ble_eq_true rfl), (Nat.le_of_ble_eq_true rfl)⟩ q2 q1 (Nat.le_of_ble_eq_true rfl) dL_work_9 ⟨(Nat.le_of_ble_eq_true rfl), (Nat.le_of_ble_eq_true rfl)⟩ (fun E ce qx9 H locs hx9 hP hS h1 h2 h3 => ?_) (fun x4 H locs hx9 hP hS => ?_)
  · replace h := sel_l hx9 h
    by_cases c5 : E = "java/lang/IndexOutOfBoundsException"
    · replace h := ifp c5 h
      subst c5
      refine vx_catch hown [] ⟨0, 14, 17, 24⟩ [⟨0, 14, 21, 13⟩] hex (fun z hz => nomatch hz) (by decide) (by decide) (hts _ wd_633) (va_Nw.use rfl (hE.1 _ wn_645)) h1 h2 h3 ?_
      refine lv_astore (lv' := [(6, .ref qx9), (0, .ref a0), (1, .int a1), (2, .int a2), (3, .int a3), (4, .int a4), (5, .ref a5)]) hx hb dL_work_17 hl (by decide) rfl (fun ls hl => ?_)
      refine lv_iconst (v := 1) hx hb dL_work_19 (by decide) ?_
      cases h
      exact e_im hx hb hlocks hr hP hD hS (Nat.le_of_ble_eq_true rfl) (Nat.le_of_ble_eq_true rfl) dL_work_20
    · replace h := ifn c5 h
      by_cases c6 : E = "java/lang/IllegalArgumentException"
      · replace h := ifp c6 h
        subst c6
        refine vx_catch hown [⟨0, 14, 17, 24⟩] ⟨0, 14, 21, 13⟩ [] hex (fun z hz => by cases hz with | head => exact Or.inr ⟨by decide, "java/lang/IndexOutOfBoundsException", hts _ wd_633, hNC ("java/lang/IllegalArgumentException", "java/lang/IndexOutOfBoundsException") (by decide)⟩ | tail _ hz => exact nomatch hz) (by decide) (by decide) (hts _ wd_473) (va_Nw.use rfl (hE.1 _ wn_487)) h1 h2 h3 ?_
        refine lv_astore (lv' := [(6, .ref qx9), (0, .ref a0), (1, .int a1), (2, .int a2), (3, .int a3), (4, .int a4), (5, .ref a5)]) hx hb dL_work_21 hl (by decide) rfl (fun ls hl => ?_)
        refine lv_iconst (v := 2) hx hb dL_work_23 (by decide) ?_
        cases h
        exact e_im hx hb hlocks hr hP hD hS (Nat.le_of_ble_eq_true rfl) (Nat.le_of_ble_eq_true rfl) dL_work_24
      · replace h := ifn c6 h
        cases h
  · replace h := sel_r hx9 h
    refine lv_i2l (v := (Int32.toInt64 x4)) hx hb dL_work_12 rfl ?_
    replace h := bd h
    obtain ⟨Z7, q8, h⟩ := h
    refine r_sJ hx hb hK hP hD hS q8 dL_work_13 (fun H locs hz9 hP hD hS => ?_)
    refine lv_goto (tgt := 25) hx hb dL_work_14 (by decide) ?_
    refine lv_iconst (v := 0) hx hb dL_work_25 (by decide) ?_
    cases h
    exact e_im hx hb hlocks hr hP hD hS (Nat.le_of_ble_eq_true rfl) (Nat.le_of_ble_eq_true rfl) dL_work_26
set_option maxRecDepth 100000 in
theorem c_L_work {p : Program} {l : Launch} {e : Env} {R : Room} {s : State} {m : MethodId} {args : Array Value} {below : List Frame} {meth : Method} {c : Code} {H : Heap} {locs : List Loc} {cells slots : Nat} {Q : State → Prop} {cc : ByteArray} {pc index nL : Nat} {ls : Array Slot} {rest : List Value} {D : va_G} {cy : Nat → ClassId} {A0 : Nat → Prop} {S : St} {own : String} {a0 : Nat} {a1 : Int32} {a2 : Int32} {a3 : Int32} {a4 : Int32} {a5 : Nat} {r : Int32} {S1 : St}  (hF : CallFix p m c cc nL s args ALLW own) (hsz : ls.size = nL) (hK : va_K D vwCl (tyL cy) s) (hP : SP D cy S H) (hD : ∀ a, S a ≠ none → A0 a) (hA : ∀ q, s.heap.size ≤ q → A0 q) (hS : va_S A0 s.heap H locs) (hE : ENV A0 s) (hNC : NCS s) (hl0 : l.stackTraces = false) (hk : Cond.methodLink own index yL_work ∈ ALLW) (hR : rm_L_work.frames + 1 ≤ R.frames ∧ 8 + (7 + 11) + rm_L_work.locals ≤ R.locals) (h : f_L_work S a0 a1 a2 a3 a4 a5 = some (r, S1)) (hW : (rest.map fun v => v.category).sum ≤ 8) (hdg : decode cc pc = .ok (.invokestatic index, 3)) (hf : cells + 4 ≤ R.cells ∧ slots + 24 ≤ R.slots)
    (kk : ∀ (H1 : Heap) (locs1 : List Loc), SP D cy S1 H1 → (∀ a, S1 a ≠ none → A0 a) → va_S A0 s.heap H1 locs1 → W p l e R s m args below meth c H1 locs1 (cells + 4) (slots + 24) Q (F0 m (pc + 3) ls (.int r :: rest))) : W p l e R s m args below meth c H locs cells slots Q (F0 m pc ls (.ref a5 :: .int a4 :: .int a3 :: .int a2 :: .int a1 :: .ref a0 :: rest)) := by
  exact k_W (As := [.ref a0, .int a1, .int a2, .int a3, .int a4, .ref a5]) hF hsz (m_L_work l hl0 D cy H.size S a0 a1 a2 a3 a4 a5 r S1 h) (cwW_of (n := 6) hF.2.2.2.2 hk wd_847 wd_68 wd_848 rfl rfl (by decide +kernel) hR) rfl hK hP hD hA hS hE hNC hW rfl hdg hf kk
/-- VowBlocksLaw.regretIn(LVowBlocks;II[J)I -/
def f_L_regretIn (S : St) (a0 : Nat) (a1 : Int32) (a2 : Int32) (a3 : Nat) : Option (Int32 × St) :=
  (oO S a0 5).bind fun _ =>
  (f_X6_regretIn S a0 a1 a2).bind fun z3 =>
  Sum.elim (fun E =>
    if E = "java/lang/IndexOutOfBoundsException" then
      some (1, S)
    else
      if E = "java/lang/IllegalArgumentException" then
        some (2, S)
      else
        none
  ) (fun x4 =>
  (sJ S a3 0 (Int32.toInt64 x4)).bind fun Z7 =>
  some (0, Z7)
  ) z3
abbrev rm_L_regretIn : Room := { frames := 8, cells := 2, slots := 12, locals := 137 }
set_option maxHeartbeats 4000000 in
set_option maxRecDepth 100000 in
theorem m_L_regretIn (l : Launch) (hl0 : l.stackTraces = false) (D : va_G) (cy : Nat → ClassId) (sz : Nat) (S : St) (a0 : Nat) (a1 : Int32) (a2 : Int32) (a3 : Nat) (r : Int32) (S1 : St) (h : f_L_regretIn S a0 a1 a2 a3 = some (r, S1)) : Met l yL_regretIn (wsW yL_regretIn cL_regretIn 5 (some .int)  [(0, 10, 13, 24), (0, 10, 17, 13)]) rm_L_regretIn (va_Pc [.ref a0, .int a1, .int a2, .ref a3] (PNL D cy S sz)) (va_Qi (fun r' (_ : Unit) => r' = r) (fun _ t => PoS D cy S1 (dm S sz) t) (dm S sz)) 2 12 (dm S sz) := by
  refine va_MetW (cc := cL_regretIn) (maxL := 5) (ret := (some .int)) (hh :=  [(0, 10, 13, 24), (0, 10, 17, 13)]) (by decide) rfl ?_
  intro p e s m args below meth c s₁ B hml hv
  obtain ⟨rfl, hsz, hP, hK, hE, hNC⟩ := hv
  have hx := B.exec
  have hb := B.bytes
  have hr := B.returns
  have hts9 := atoms_spec (ws := wsW yL_regretIn cL_regretIn 5 (some .int)  [(0, 10, 13, 24), (0, 10, 17, 13)]) B.pre
  have hts : ∀ w ∈ ALLW, w.before _ s = true := fun w h => hts9 w (List.mem_cons_of_mem _ h)
  have hex := vx_table (x := yL_regretIn) B (hts9 _ List.mem_cons_self)
  have hown : s.vm.findClass RL = some m.cls := findClass_of_methodNamed B.named
  have hlocks := B.notSynchronized
  subst hsz
  have hD : ∀ a, S a ≠ none → dm S s.heap.size a := fun a h => Or.inl h
  have hA : ∀ q : Nat, s.heap.size ≤ q → dm S s.heap.size q := fun q h => Or.inr h
  have hS : va_S (dm S s.heap.size) s.heap s.heap [] := va_S.rf
  have hl := lv_entry [.ref a0, .int a1, .int a2, .ref a3] (n := 5) (Nat.le_of_ble_eq_true rfl)
  rw [lg_entry_eq]
  generalize (lg_sl [.ref a0, .int a1, .int a2, .ref a3] ++ List.replicate (5 - (lg_sl [.ref a0, .int a1, .int a2, .ref a3]).length) Slot.unset).toArray = ls at hl ⊢
  have hl : lv_has ls 5 [(0, .ref a0), (1, .int a1), (2, .int a2), (3, .ref a3)] := hl
  rw [f_L_regretIn] at h
  refine lv_aload_n hx hb dL_regretIn_0 rfl (lv_at hl 3 rfl) ?_
  refine lv_iconst (v := 0) hx hb dL_regretIn_1 (by decide) ?_
  refine lv_aload_n hx hb dL_regretIn_2 rfl (lv_at hl 0 rfl) ?_
  refine lv_iload_n hx hb dL_regretIn_3 rfl (lv_at hl 1 rfl) ?_
  refine lv_iload_n hx hb dL_regretIn_4 rfl (lv_at hl 2 rfl) ?_
  replace h := bd h
  obtain ⟨_, q1, h⟩ := h
  replace h := bd h
  obtain ⟨z3, q2, h⟩ := h
  refine c_X6_regretIn ⟨hx, hb, hml, hown, hts⟩ hl.1 hK hP hS hE hl0 wd_856 ⟨(Nat.le_of_ble_eq_true rfl), (Nat.le_of_ble_eq_true rfl)⟩ q2 q1 (Nat.le_of_ble_eq_true rfl) dL_regretIn_5 ⟨(Nat.le_of_ble_eq_true rfl), (Nat.le_of_ble_eq_true rfl)⟩ (fun E ce qx9 H locs hx9 hP hS h1 h2 h3 => ?_) (fun x4 H locs hx9 hP hS => ?_)
  · replace h := sel_l hx9 h
    by_cases c5 : E = "java/lang/IndexOutOfBoundsException"
    · replace h := ifp c5 h
      subst c5
      refine vx_catch hown [] ⟨0, 10, 13, 24⟩ [⟨0, 10, 17, 13⟩] hex (fun z hz => nomatch hz) (by decide) (by decide) (hts _ wd_633) (va_Nw.use rfl (hE.1 _ wn_645)) h1 h2 h3 ?_
      refine lv_astore (lv' := [(4, .ref qx9), (0, .ref a0), (1, .int a1), (2, .int a2), (3, .ref a3)]) hx hb dL_regretIn_13 hl (by decide) rfl (fun ls hl => ?_)
      refine lv_iconst (v := 1) hx hb dL_regretIn_15 (by decide) ?_
      cases h
      exact e_im hx hb hlocks hr hP hD hS (Nat.le_of_ble_eq_true rfl) (Nat.le_of_ble_eq_true rfl) dL_regretIn_16
    · replace h := ifn c5 h
      by_cases c6 : E = "java/lang/IllegalArgumentException"
      · replace h := ifp c6 h
        subst c6
        refine vx_catch hown [⟨0, 10, 13, 24⟩] ⟨0, 10, 17, 13⟩ [] hex (fun z hz => by cases hz with | head => exact Or.inr ⟨by decide, "java/lang/IndexOutOfBoundsException", hts _ wd_633, hNC ("java/lang/IllegalArgumentException", "java/lang/IndexOutOfBoundsException") (by decide)⟩ | tail _ hz => exact nomatch hz) (by decide) (by decide) (hts _ wd_473) (va_Nw.use rfl (hE.1 _ wn_487)) h1 h2 h3 ?_
        refine lv_astore (lv' := [(4, .ref qx9), (0, .ref a0), (1, .int a1), (2, .int a2), (3, .ref a3)]) hx hb dL_regretIn_17 hl (by decide) rfl (fun ls hl => ?_)
        refine lv_iconst (v := 2) hx hb dL_regretIn_19 (by decide) ?_
        cases h
        exact e_im hx hb hlocks hr hP hD hS (Nat.le_of_ble_eq_true rfl) (Nat.le_of_ble_eq_true rfl) dL_regretIn_20
      · replace h := ifn c6 h
        cases h
  · replace h := sel_r hx9 h
    refine lv_i2l (v := (Int32.toInt64 x4)) hx hb dL_regretIn_8 rfl ?_
    replace h := bd h
    obtain ⟨Z7, q8, h⟩ := h
    refine r_sJ hx hb hK hP hD hS q8 dL_regretIn_9 (fun H locs hz9 hP hD hS => ?_)
    refine lv_goto (tgt := 21) hx hb dL_regretIn_10 (by decide) ?_
    refine lv_iconst (v := 0) hx hb dL_regretIn_21 (by decide) ?_
    cases h
    exact e_im hx hb hlocks hr hP hD hS (Nat.le_of_ble_eq_true rfl) (Nat.le_of_ble_eq_true rfl) dL_regretIn_22
set_option maxRecDepth 100000 in
theorem c_L_regretIn {p : Program} {l : Launch} {e : Env} {R : Room} {s : State} {m : MethodId} {args : Array Value} {below : List Frame} {meth : Method} {c : Code} {H : Heap} {locs : List Loc} {cells slots : Nat} {Q : State → Prop} {cc : ByteArray} {pc index nL : Nat} {ls : Array Slot} {rest : List Value} {D : va_G} {cy : Nat → ClassId} {A0 : Nat → Prop} {S : St} {own : String} {a0 : Nat} {a1 : Int32} {a2 : Int32} {a3 : Nat} {r : Int32} {S1 : St}  (hF : CallFix p m c cc nL s args ALLW own) (hsz : ls.size = nL) (hK : va_K D vwCl (tyL cy) s) (hP : SP D cy S H) (hD : ∀ a, S a ≠ none → A0 a) (hA : ∀ q, s.heap.size ≤ q → A0 q) (hS : va_S A0 s.heap H locs) (hE : ENV A0 s) (hNC : NCS s) (hl0 : l.stackTraces = false) (hk : Cond.methodLink own index yL_regretIn ∈ ALLW) (hR : rm_L_regretIn.frames + 1 ≤ R.frames ∧ 8 + (5 + 11) + rm_L_regretIn.locals ≤ R.locals) (h : f_L_regretIn S a0 a1 a2 a3 = some (r, S1)) (hW : (rest.map fun v => v.category).sum ≤ 8) (hdg : decode cc pc = .ok (.invokestatic index, 3)) (hf : cells + 2 ≤ R.cells ∧ slots + 12 ≤ R.slots)
    (kk : ∀ (H1 : Heap) (locs1 : List Loc), SP D cy S1 H1 → (∀ a, S1 a ≠ none → A0 a) → va_S A0 s.heap H1 locs1 → W p l e R s m args below meth c H1 locs1 (cells + 2) (slots + 12) Q (F0 m (pc + 3) ls (.int r :: rest))) : W p l e R s m args below meth c H locs cells slots Q (F0 m pc ls (.ref a3 :: .int a2 :: .int a1 :: .ref a0 :: rest)) := by
  exact k_W (As := [.ref a0, .int a1, .int a2, .ref a3]) hF hsz (m_L_regretIn l hl0 D cy H.size S a0 a1 a2 a3 r S1 h) (cwW_of (n := 4) hF.2.2.2.2 hk wd_854 wd_68 wd_855 rfl rfl (by decide +kernel) hR) rfl hK hP hD hA hS hE hNC hW rfl hdg hf kk
/-- VowBlocksLaw.gain(LVowBlocks;I[J)I -/
def f_L_gain (S : St) (a0 : Nat) (a1 : Int32) (a2 : Nat) : Option (Int32 × St) :=
  (oO S a0 5).bind fun _ =>
  (f_X6_gain S a0 a1).bind fun z3 =>
  Sum.elim (fun E =>
    if E = "java/lang/IndexOutOfBoundsException" then
      some (1, S)
    else
      none
  ) (fun x4 =>
  (sJ S a2 0 (Int32.toInt64 x4)).bind fun Z6 =>
  some (0, Z6)
  ) z3
abbrev rm_L_gain : Room := { frames := 8, cells := 1, slots := 6, locals := 134 }
set_option maxHeartbeats 4000000 in
set_option maxRecDepth 100000 in
theorem m_L_gain (l : Launch) (hl0 : l.stackTraces = false) (D : va_G) (cy : Nat → ClassId) (sz : Nat) (S : St) (a0 : Nat) (a1 : Int32) (a2 : Nat) (r : Int32) (S1 : St) (h : f_L_gain S a0 a1 a2 = some (r, S1)) : Met l yL_gain (wsW yL_gain cL_gain 4 (some .int)  [(0, 9, 12, 24)]) rm_L_gain (va_Pc [.ref a0, .int a1, .ref a2] (PNL D cy S sz)) (va_Qi (fun r' (_ : Unit) => r' = r) (fun _ t => PoS D cy S1 (dm S sz) t) (dm S sz)) 1 6 (dm S sz) := by
  refine va_MetW (cc := cL_gain) (maxL := 4) (ret := (some .int)) (hh :=  [(0, 9, 12, 24)]) (by decide) rfl ?_
  intro p e s m args below meth c s₁ B hml hv
  obtain ⟨rfl, hsz, hP, hK, hE, hNC⟩ := hv
  have hx := B.exec
  have hb := B.bytes
  have hr := B.returns
  have hts9 := atoms_spec (ws := wsW yL_gain cL_gain 4 (some .int)  [(0, 9, 12, 24)]) B.pre
  have hts : ∀ w ∈ ALLW, w.before _ s = true := fun w h => hts9 w (List.mem_cons_of_mem _ h)
  have hex := vx_table (x := yL_gain) B (hts9 _ List.mem_cons_self)
  have hown : s.vm.findClass RL = some m.cls := findClass_of_methodNamed B.named
  have hlocks := B.notSynchronized
  subst hsz
  have hD : ∀ a, S a ≠ none → dm S s.heap.size a := fun a h => Or.inl h
  have hA : ∀ q : Nat, s.heap.size ≤ q → dm S s.heap.size q := fun q h => Or.inr h
  have hS : va_S (dm S s.heap.size) s.heap s.heap [] := va_S.rf
  have hl := lv_entry [.ref a0, .int a1, .ref a2] (n := 4) (Nat.le_of_ble_eq_true rfl)
  rw [lg_entry_eq]
  generalize (lg_sl [.ref a0, .int a1, .ref a2] ++ List.replicate (4 - (lg_sl [.ref a0, .int a1, .ref a2]).length) Slot.unset).toArray = ls at hl ⊢
  have hl : lv_has ls 4 [(0, .ref a0), (1, .int a1), (2, .ref a2)] := hl
  rw [f_L_gain] at h
  refine lv_aload_n hx hb dL_gain_0 rfl (lv_at hl 2 rfl) ?_
  refine lv_iconst (v := 0) hx hb dL_gain_1 (by decide) ?_
  refine lv_aload_n hx hb dL_gain_2 rfl (lv_at hl 0 rfl) ?_
  refine lv_iload_n hx hb dL_gain_3 rfl (lv_at hl 1 rfl) ?_
  replace h := bd h
  obtain ⟨_, q1, h⟩ := h
  replace h := bd h
  obtain ⟨z3, q2, h⟩ := h
  refine c_X6_gain ⟨hx, hb, hml, hown, hts⟩ hl.1 hK hP hS hE hl0 wd_863 ⟨(Nat.le_of_ble_eq_true rfl), (Nat.le_of_ble_eq_true rfl)⟩ q2 q1 (Nat.le_of_ble_eq_true rfl) dL_gain_4 ⟨(Nat.le_of_ble_eq_true rfl), (Nat.le_of_ble_eq_true rfl)⟩ (fun E ce qx9 H locs hx9 hP hS h1 h2 h3 => ?_) (fun x4 H locs hx9 hP hS => ?_)
  · replace h := sel_l hx9 h
    by_cases c5 : E = "java/lang/IndexOutOfBoundsException"
    · replace h := ifp c5 h
      subst c5
      refine vx_catch hown [] ⟨0, 9, 12, 24⟩ [] hex (fun z hz => nomatch hz) (by decide) (by decide) (hts _ wd_633) (va_Nw.use rfl (hE.1 _ wn_645)) h1 h2 h3 ?_
      refine lv_astore_n (lv' := [(3, .ref qx9), (0, .ref a0), (1, .int a1), (2, .ref a2)]) hx hb dL_gain_12 rfl hl (by decide) rfl (fun ls hl => ?_)
      refine lv_iconst (v := 1) hx hb dL_gain_13 (by decide) ?_
      cases h
      exact e_im hx hb hlocks hr hP hD hS (Nat.le_of_ble_eq_true rfl) (Nat.le_of_ble_eq_true rfl) dL_gain_14
    · replace h := ifn c5 h
      cases h
  · replace h := sel_r hx9 h
    refine lv_i2l (v := (Int32.toInt64 x4)) hx hb dL_gain_7 rfl ?_
    replace h := bd h
    obtain ⟨Z6, q7, h⟩ := h
    refine r_sJ hx hb hK hP hD hS q7 dL_gain_8 (fun H locs hz9 hP hD hS => ?_)
    refine lv_goto (tgt := 15) hx hb dL_gain_9 (by decide) ?_
    refine lv_iconst (v := 0) hx hb dL_gain_15 (by decide) ?_
    cases h
    exact e_im hx hb hlocks hr hP hD hS (Nat.le_of_ble_eq_true rfl) (Nat.le_of_ble_eq_true rfl) dL_gain_16
set_option maxRecDepth 100000 in
theorem c_L_gain {p : Program} {l : Launch} {e : Env} {R : Room} {s : State} {m : MethodId} {args : Array Value} {below : List Frame} {meth : Method} {c : Code} {H : Heap} {locs : List Loc} {cells slots : Nat} {Q : State → Prop} {cc : ByteArray} {pc index nL : Nat} {ls : Array Slot} {rest : List Value} {D : va_G} {cy : Nat → ClassId} {A0 : Nat → Prop} {S : St} {own : String} {a0 : Nat} {a1 : Int32} {a2 : Nat} {r : Int32} {S1 : St}  (hF : CallFix p m c cc nL s args ALLW own) (hsz : ls.size = nL) (hK : va_K D vwCl (tyL cy) s) (hP : SP D cy S H) (hD : ∀ a, S a ≠ none → A0 a) (hA : ∀ q, s.heap.size ≤ q → A0 q) (hS : va_S A0 s.heap H locs) (hE : ENV A0 s) (hNC : NCS s) (hl0 : l.stackTraces = false) (hk : Cond.methodLink own index yL_gain ∈ ALLW) (hR : rm_L_gain.frames + 1 ≤ R.frames ∧ 8 + (4 + 11) + rm_L_gain.locals ≤ R.locals) (h : f_L_gain S a0 a1 a2 = some (r, S1)) (hW : (rest.map fun v => v.category).sum ≤ 8) (hdg : decode cc pc = .ok (.invokestatic index, 3)) (hf : cells + 1 ≤ R.cells ∧ slots + 6 ≤ R.slots)
    (kk : ∀ (H1 : Heap) (locs1 : List Loc), SP D cy S1 H1 → (∀ a, S1 a ≠ none → A0 a) → va_S A0 s.heap H1 locs1 → W p l e R s m args below meth c H1 locs1 (cells + 1) (slots + 6) Q (F0 m (pc + 3) ls (.int r :: rest))) : W p l e R s m args below meth c H locs cells slots Q (F0 m pc ls (.ref a2 :: .int a1 :: .ref a0 :: rest)) := by
  exact k_W (As := [.ref a0, .int a1, .ref a2]) hF hsz (m_L_gain l hl0 D cy H.size S a0 a1 a2 r S1 h) (cwW_of (n := 3) hF.2.2.2.2 hk wd_861 wd_68 wd_862 rfl rfl (by decide +kernel) hR) rfl hK hP hD hA hS hE hNC hW rfl hdg hf kk
/-- VowBlocksLaw.cheapest(LVowBlocks;II[J)I -/
def f_L_cheapest (S : St) (a0 : Nat) (a1 : Int32) (a2 : Int32) (a3 : Nat) : Option (Int32 × St) :=
  (oO S a0 5).bind fun _ =>
  (f_X6_cheapest S a0 a1 a2).bind fun z3 =>
  Sum.elim (fun E =>
    if E = "java/lang/IndexOutOfBoundsException" then
      some (1, z3.2)
    else
      none
  ) (fun x4 =>
  (sJ z3.2 a3 0 (Int32.toInt64 x4)).bind fun Z6 =>
  some (0, Z6)
  ) z3.1
abbrev rm_L_cheapest : Room := { frames := 9, cells := 2, slots := 12, locals := 148 }
set_option maxHeartbeats 4000000 in
set_option maxRecDepth 100000 in
theorem m_L_cheapest (l : Launch) (hl0 : l.stackTraces = false) (D : va_G) (cy : Nat → ClassId) (sz : Nat) (S : St) (a0 : Nat) (a1 : Int32) (a2 : Int32) (a3 : Nat) (r : Int32) (S1 : St) (h : f_L_cheapest S a0 a1 a2 a3 = some (r, S1)) : Met l yL_cheapest (wsW yL_cheapest cL_cheapest 5 (some .int)  [(0, 10, 13, 24)]) rm_L_cheapest (va_Pc [.ref a0, .int a1, .int a2, .ref a3] (PNL D cy S sz)) (va_Qi (fun r' (_ : Unit) => r' = r) (fun _ t => PoS D cy S1 (dm S sz) t) (dm S sz)) 2 12 (dm S sz) := by
  refine va_MetW (cc := cL_cheapest) (maxL := 5) (ret := (some .int)) (hh :=  [(0, 10, 13, 24)]) (by decide) rfl ?_
  intro p e s m args below meth c s₁ B hml hv
  obtain ⟨rfl, hsz, hP, hK, hE, hNC⟩ := hv
  have hx := B.exec
  have hb := B.bytes
  have hr := B.returns
  have hts9 := atoms_spec (ws := wsW yL_cheapest cL_cheapest 5 (some .int)  [(0, 10, 13, 24)]) B.pre
  have hts : ∀ w ∈ ALLW, w.before _ s = true := fun w h => hts9 w (List.mem_cons_of_mem _ h)
  have hex := vx_table (x := yL_cheapest) B (hts9 _ List.mem_cons_self)
  have hown : s.vm.findClass RL = some m.cls := findClass_of_methodNamed B.named
  have hlocks := B.notSynchronized
  subst hsz
  have hD : ∀ a, S a ≠ none → dm S s.heap.size a := fun a h => Or.inl h
  have hA : ∀ q : Nat, s.heap.size ≤ q → dm S s.heap.size q := fun q h => Or.inr h
  have hS : va_S (dm S s.heap.size) s.heap s.heap [] := va_S.rf
  have hl := lv_entry [.ref a0, .int a1, .int a2, .ref a3] (n := 5) (Nat.le_of_ble_eq_true rfl)
  rw [lg_entry_eq]
  generalize (lg_sl [.ref a0, .int a1, .int a2, .ref a3] ++ List.replicate (5 - (lg_sl [.ref a0, .int a1, .int a2, .ref a3]).length) Slot.unset).toArray = ls at hl ⊢
  have hl : lv_has ls 5 [(0, .ref a0), (1, .int a1), (2, .int a2), (3, .ref a3)] := hl
  rw [f_L_cheapest] at h
  refine lv_aload_n hx hb dL_cheapest_0 rfl (lv_at hl 3 rfl) ?_
  refine lv_iconst (v := 0) hx hb dL_cheapest_1 (by decide) ?_
  refine lv_aload_n hx hb dL_cheapest_2 rfl (lv_at hl 0 rfl) ?_
  refine lv_iload_n hx hb dL_cheapest_3 rfl (lv_at hl 1 rfl) ?_
  refine lv_iload_n hx hb dL_cheapest_4 rfl (lv_at hl 2 rfl) ?_
  replace h := bd h
  obtain ⟨_, q1, h⟩ := h
  replace h := bd h
  obtain ⟨z3, q2, h⟩ := h
  refine c_X6_cheapest ⟨hx, hb, hml, hown, hts⟩ hl.1 hK hP hD hA hS hE hl0 wd_870 ⟨(Nat.le_of_ble_eq_true rfl), (Nat.le_of_ble_eq_true rfl)⟩ q2 q1 (Nat.le_of_ble_eq_true rfl) dL_cheapest_5 ⟨(Nat.le_of_ble_eq_true rfl), (Nat.le_of_ble_eq_true rfl)⟩ (fun E ce qx9 H locs hx9 hP hD hS h1 h2 h3 => ?_) (fun x4 H locs hx9 hP hD hS => ?_)
  · replace h := sel_l hx9 h
    by_cases c5 : E = "java/lang/IndexOutOfBoundsException"
    · replace h := ifp c5 h
      subst c5
      refine vx_catch hown [] ⟨0, 10, 13, 24⟩ [] hex (fun z hz => nomatch hz) (by decide) (by decide) (hts _ wd_633) (va_Nw.use rfl (hE.1 _ wn_645)) h1 h2 h3 ?_
      refine lv_astore (lv' := [(4, .ref qx9), (0, .ref a0), (1, .int a1), (2, .int a2), (3, .ref a3)]) hx hb dL_cheapest_13 hl (by decide) rfl (fun ls hl => ?_)
      refine lv_iconst (v := 1) hx hb dL_cheapest_15 (by decide) ?_
      cases h
      exact e_im hx hb hlocks hr hP hD hS (Nat.le_of_ble_eq_true rfl) (Nat.le_of_ble_eq_true rfl) dL_cheapest_16
    · replace h := ifn c5 h
      cases h
  · replace h := sel_r hx9 h
    refine lv_i2l (v := (Int32.toInt64 x4)) hx hb dL_cheapest_8 rfl ?_
    replace h := bd h
    obtain ⟨Z6, q7, h⟩ := h
    refine r_sJ hx hb hK hP hD hS q7 dL_cheapest_9 (fun H locs hz9 hP hD hS => ?_)
    refine lv_goto (tgt := 17) hx hb dL_cheapest_10 (by decide) ?_
    refine lv_iconst (v := 0) hx hb dL_cheapest_17 (by decide) ?_
    cases h
    exact e_im hx hb hlocks hr hP hD hS (Nat.le_of_ble_eq_true rfl) (Nat.le_of_ble_eq_true rfl) dL_cheapest_18
set_option maxRecDepth 100000 in
theorem c_L_cheapest {p : Program} {l : Launch} {e : Env} {R : Room} {s : State} {m : MethodId} {args : Array Value} {below : List Frame} {meth : Method} {c : Code} {H : Heap} {locs : List Loc} {cells slots : Nat} {Q : State → Prop} {cc : ByteArray} {pc index nL : Nat} {ls : Array Slot} {rest : List Value} {D : va_G} {cy : Nat → ClassId} {A0 : Nat → Prop} {S : St} {own : String} {a0 : Nat} {a1 : Int32} {a2 : Int32} {a3 : Nat} {r : Int32} {S1 : St}  (hF : CallFix p m c cc nL s args ALLW own) (hsz : ls.size = nL) (hK : va_K D vwCl (tyL cy) s) (hP : SP D cy S H) (hD : ∀ a, S a ≠ none → A0 a) (hA : ∀ q, s.heap.size ≤ q → A0 q) (hS : va_S A0 s.heap H locs) (hE : ENV A0 s) (hNC : NCS s) (hl0 : l.stackTraces = false) (hk : Cond.methodLink own index yL_cheapest ∈ ALLW) (hR : rm_L_cheapest.frames + 1 ≤ R.frames ∧ 8 + (5 + 11) + rm_L_cheapest.locals ≤ R.locals) (h : f_L_cheapest S a0 a1 a2 a3 = some (r, S1)) (hW : (rest.map fun v => v.category).sum ≤ 8) (hdg : decode cc pc = .ok (.invokestatic index, 3)) (hf : cells + 2 ≤ R.cells ∧ slots + 12 ≤ R.slots)
    (kk : ∀ (H1 : Heap) (locs1 : List Loc), SP D cy S1 H1 → (∀ a, S1 a ≠ none → A0 a) → va_S A0 s.heap H1 locs1 → W p l e R s m args below meth c H1 locs1 (cells + 2) (slots + 12) Q (F0 m (pc + 3) ls (.int r :: rest))) : W p l e R s m args below meth c H locs cells slots Q (F0 m pc ls (.ref a3 :: .int a2 :: .int a1 :: .ref a0 :: rest)) := by
  exact k_W (As := [.ref a0, .int a1, .int a2, .ref a3]) hF hsz (m_L_cheapest l hl0 D cy H.size S a0 a1 a2 a3 r S1 h) (cwW_of (n := 4) hF.2.2.2.2 hk wd_868 wd_68 wd_869 rfl rfl (by decide +kernel) hR) rfl hK hP hD hA hS hE hNC hW rfl hdg hf kk
/-- VowBlocksLaw.mate(LVowBlocks;I[J)I -/
def f_L_mate (S : St) (a0 : Nat) (a1 : Int32) (a2 : Nat) : Option (Int32 × St) :=
  (oO S a0 5).bind fun _ =>
  (f_X6_mate S a0 a1).bind fun z3 =>
  Sum.elim (fun E =>
    if E = "java/lang/IndexOutOfBoundsException" then
      some (1, z3.2)
    else
      none
  ) (fun x4 =>
  (sJ z3.2 a2 0 (Int32.toInt64 x4)).bind fun Z6 =>
  some (0, Z6)
  ) z3.1
abbrev rm_L_mate : Room := { frames := 8, cells := 1, slots := 6, locals := 124 }
set_option maxHeartbeats 4000000 in
set_option maxRecDepth 100000 in
theorem m_L_mate (l : Launch) (hl0 : l.stackTraces = false) (D : va_G) (cy : Nat → ClassId) (sz : Nat) (S : St) (a0 : Nat) (a1 : Int32) (a2 : Nat) (r : Int32) (S1 : St) (h : f_L_mate S a0 a1 a2 = some (r, S1)) : Met l yL_mate (wsW yL_mate cL_mate 4 (some .int)  [(0, 9, 12, 24)]) rm_L_mate (va_Pc [.ref a0, .int a1, .ref a2] (PNL D cy S sz)) (va_Qi (fun r' (_ : Unit) => r' = r) (fun _ t => PoS D cy S1 (dm S sz) t) (dm S sz)) 1 6 (dm S sz) := by
  refine va_MetW (cc := cL_mate) (maxL := 4) (ret := (some .int)) (hh :=  [(0, 9, 12, 24)]) (by decide) rfl ?_
  intro p e s m args below meth c s₁ B hml hv
  obtain ⟨rfl, hsz, hP, hK, hE, hNC⟩ := hv
  have hx := B.exec
  have hb := B.bytes
  have hr := B.returns
  have hts9 := atoms_spec (ws := wsW yL_mate cL_mate 4 (some .int)  [(0, 9, 12, 24)]) B.pre
  have hts : ∀ w ∈ ALLW, w.before _ s = true := fun w h => hts9 w (List.mem_cons_of_mem _ h)
  have hex := vx_table (x := yL_mate) B (hts9 _ List.mem_cons_self)
  have hown : s.vm.findClass RL = some m.cls := findClass_of_methodNamed B.named
  have hlocks := B.notSynchronized
  subst hsz
  have hD : ∀ a, S a ≠ none → dm S s.heap.size a := fun a h => Or.inl h
  have hA : ∀ q : Nat, s.heap.size ≤ q → dm S s.heap.size q := fun q h => Or.inr h
  have hS : va_S (dm S s.heap.size) s.heap s.heap [] := va_S.rf
  have hl := lv_entry [.ref a0, .int a1, .ref a2] (n := 4) (Nat.le_of_ble_eq_true rfl)
  rw [lg_entry_eq]
  generalize (lg_sl [.ref a0, .int a1, .ref a2] ++ List.replicate (4 - (lg_sl [.ref a0, .int a1, .ref a2]).length) Slot.unset).toArray = ls at hl ⊢
  have hl : lv_has ls 4 [(0, .ref a0), (1, .int a1), (2, .ref a2)] := hl
  rw [f_L_mate] at h
  refine lv_aload_n hx hb dL_mate_0 rfl (lv_at hl 2 rfl) ?_
  refine lv_iconst (v := 0) hx hb dL_mate_1 (by decide) ?_
  refine lv_aload_n hx hb dL_mate_2 rfl (lv_at hl 0 rfl) ?_
  refine lv_iload_n hx hb dL_mate_3 rfl (lv_at hl 1 rfl) ?_
  replace h := bd h
  obtain ⟨_, q1, h⟩ := h
  replace h := bd h
  obtain ⟨z3, q2, h⟩ := h
  refine c_X6_mate ⟨hx, hb, hml, hown, hts⟩ hl.1 hK hP hD hA hS hE hl0 wd_877 ⟨(Nat.le_of_ble_eq_true rfl), (Nat.le_of_ble_eq_true rfl)⟩ q2 q1 (Nat.le_of_ble_eq_true rfl) dL_mate_4 ⟨(Nat.le_of_ble_eq_true rfl), (Nat.le_of_ble_eq_true rfl)⟩ (fun E ce qx9 H locs hx9 hP hD hS h1 h2 h3 => ?_) (fun x4 H locs hx9 hP hD hS => ?_)
  · replace h := sel_l hx9 h
    by_cases c5 : E = "java/lang/IndexOutOfBoundsException"
    · replace h := ifp c5 h
      subst c5
      refine vx_catch hown [] ⟨0, 9, 12, 24⟩ [] hex (fun z hz => nomatch hz) (by decide) (by decide) (hts _ wd_633) (va_Nw.use rfl (hE.1 _ wn_645)) h1 h2 h3 ?_
      refine lv_astore_n (lv' := [(3, .ref qx9), (0, .ref a0), (1, .int a1), (2, .ref a2)]) hx hb dL_mate_12 rfl hl (by decide) rfl (fun ls hl => ?_)
      refine lv_iconst (v := 1) hx hb dL_mate_13 (by decide) ?_
      cases h
      exact e_im hx hb hlocks hr hP hD hS (Nat.le_of_ble_eq_true rfl) (Nat.le_of_ble_eq_true rfl) dL_mate_14
    · replace h := ifn c5 h
      cases h
  · replace h := sel_r hx9 h
    refine lv_i2l (v := (Int32.toInt64 x4)) hx hb dL_mate_7 rfl ?_
    replace h := bd h
    obtain ⟨Z6, q7, h⟩ := h
    refine r_sJ hx hb hK hP hD hS q7 dL_mate_8 (fun H locs hz9 hP hD hS => ?_)
    refine lv_goto (tgt := 15) hx hb dL_mate_9 (by decide) ?_
    refine lv_iconst (v := 0) hx hb dL_mate_15 (by decide) ?_
    cases h
    exact e_im hx hb hlocks hr hP hD hS (Nat.le_of_ble_eq_true rfl) (Nat.le_of_ble_eq_true rfl) dL_mate_16
set_option maxRecDepth 100000 in
theorem c_L_mate {p : Program} {l : Launch} {e : Env} {R : Room} {s : State} {m : MethodId} {args : Array Value} {below : List Frame} {meth : Method} {c : Code} {H : Heap} {locs : List Loc} {cells slots : Nat} {Q : State → Prop} {cc : ByteArray} {pc index nL : Nat} {ls : Array Slot} {rest : List Value} {D : va_G} {cy : Nat → ClassId} {A0 : Nat → Prop} {S : St} {own : String} {a0 : Nat} {a1 : Int32} {a2 : Nat} {r : Int32} {S1 : St}  (hF : CallFix p m c cc nL s args ALLW own) (hsz : ls.size = nL) (hK : va_K D vwCl (tyL cy) s) (hP : SP D cy S H) (hD : ∀ a, S a ≠ none → A0 a) (hA : ∀ q, s.heap.size ≤ q → A0 q) (hS : va_S A0 s.heap H locs) (hE : ENV A0 s) (hNC : NCS s) (hl0 : l.stackTraces = false) (hk : Cond.methodLink own index yL_mate ∈ ALLW) (hR : rm_L_mate.frames + 1 ≤ R.frames ∧ 8 + (4 + 11) + rm_L_mate.locals ≤ R.locals) (h : f_L_mate S a0 a1 a2 = some (r, S1)) (hW : (rest.map fun v => v.category).sum ≤ 8) (hdg : decode cc pc = .ok (.invokestatic index, 3)) (hf : cells + 1 ≤ R.cells ∧ slots + 6 ≤ R.slots)
    (kk : ∀ (H1 : Heap) (locs1 : List Loc), SP D cy S1 H1 → (∀ a, S1 a ≠ none → A0 a) → va_S A0 s.heap H1 locs1 → W p l e R s m args below meth c H1 locs1 (cells + 1) (slots + 6) Q (F0 m (pc + 3) ls (.int r :: rest))) : W p l e R s m args below meth c H locs cells slots Q (F0 m pc ls (.ref a2 :: .int a1 :: .ref a0 :: rest)) := by
  exact k_W (As := [.ref a0, .int a1, .ref a2]) hF hsz (m_L_mate l hl0 D cy H.size S a0 a1 a2 r S1 h) (cwW_of (n := 3) hF.2.2.2.2 hk wd_875 wd_68 wd_876 rfl rfl (by decide +kernel) hR) rfl hK hP hD hA hS hE hNC hW rfl hdg hf kk
