/-! THE TEXT: spell whole -/
def lastT (t : Nat → Nat) (len : Nat) : Ts := (rnT t len).getD (0, 0, 0)
def finN (t : Nat → Nat) (len : Nat) : Nat := (rowT t len).1 + (lastT t len).2.2
def finG (t : Nat → Nat) (len : Nat) : Nat → Nat := fun y => if y < (rowT t len).1 then (rowT t len).2 y else (lastT t len).2.1
def okSp (t : Nat → Nat) (len : Nat) : Prop := fE t len = len ∧ isW (lastT t len) ∧ finN t len ≤ 24
theorem finN_1 {t : Nat → Nat} {len : Nat} (h : isW (lastT t len)) : 1 ≤ finN t len := by
  have ok : okT (lastT t len) := okT_g
  unfold finN
  rcases h with h | h
  · have := ok.2.2.2.2 h; omega
  · have := ok.2.2.2.1 h; omega
theorem finG_255 (t : Nat → Nat) (len y : Nat) : finG t len y ≤ 255 := by
  unfold finG
  split
  · exact rowT_255 t len y
  · exact (okT_g (t := t) (i := len)).2.1
theorem x5_spell {S : St} {x : Nat} {W : Nat → Nat → Int32} {R : Nat → Nat → Nat} {len : Nat} {t : Nat → Nat} (h : TxW W len t) :
    ∃ W' b, f_X5_spell (WS S x W R) (x + 185) (x + 187) = some (b, WS S x W' R) ∧ FrY W W' ∧ ((okSp t len ∧ b = 1 ∧ RwW W' 187 (finN t len) (finG t len)) ∨ (¬ okSp t len ∧ b = 0)) := by
  have h60 := h.2.1
  have f0 : FrY W (up2 (up2 W 187 1 (oI 0)) 185 2 0) := FrY_trans (FrY_r (Fr2_n W 187 1 (oI 0))) (FrY_X (FrX_up _ 2 0 (by decide)))
  have hz : RwW (up2 (up2 W 187 1 (oI 0)) 185 2 0) 187 (rowT t 0).1 (rowT t 0).2 := RwW_fr (RwW_zero W 187 (fun _ => 0) (fun _ => by omega)) (up2_row _ _ (by decide)) (up2_row _ _ (by decide))
  obtain ⟨W', e1, e2, e3⟩ := x5_spell_L (S := S) (x := x) (R := R) len FU 0 (up2 (up2 W 187 1 (oI 0)) 185 2 0) (0, 0, 0) (by omega) (FU_lt (by omega)) (TxW_Y h f0) rfl ⟨up2_eq _ _ _ _, fun e => absurd rfl e⟩ hz (fun k hk => by omega)
  have f2 := FrY_trans f0 e2
  rw [show (oI 0 : Int32) = 0 from rfl] at e1
  by_cases c : fE t len = len ∧ (rowT t len).1 ≤ 24
  · obtain ⟨⟨s, hs, hm⟩, hw⟩ := e3 c
    have hl : lastT t len = s := by unfold lastT; rw [hs]; rfl
    rw [if_pos c] at e1
    by_cases c2 : isW s ∧ (rowT t len).1 + s.2.2 ≤ 24
    · obtain ⟨W2, p1, p2, p3⟩ := x5_end (S := S) (x := x) (R := R) hm (okT_rn hs) hw c2.1 c2.2
      refine ⟨W2, 1, ?_, FrY_trans f2 (FrY_r p3), .inl ⟨⟨c.1, by rw [hl]; exact c2.1, by unfold finN; rw [hl]; exact c2.2⟩, rfl, by unfold finN finG; rw [hl]; exact p2⟩⟩
      simp only [f_X5_spell, o_3 kd_187, x4_clear kd_187, p_4_2 kd_185, show (oI 0 : Int32) = 0 from rfl, e1, Option.bind_some, Sum.elim_inr, o_4 kd_185, p1, zz1]
    · have p1 := x5_end_no (S := S) (x := x) (R := R) hm (okT_rn hs) hw c2
      refine ⟨W', 0, ?_, f2, .inr ⟨fun hh => c2 ?_, rfl⟩⟩
      · simp only [f_X5_spell, o_3 kd_187, x4_clear kd_187, p_4_2 kd_185, show (oI 0 : Int32) = 0 from rfl, e1, Option.bind_some, Sum.elim_inr, o_4 kd_185, p1, zz0]
      · obtain ⟨_, a, b⟩ := hh
        unfold finN at b
        rw [hl] at a b
        exact ⟨a, b⟩
  · rw [if_neg c] at e1
    refine ⟨W', 0, ?_, f2, .inr ⟨fun hh => c ⟨hh.1, ?_⟩, rfl⟩⟩
    · simp only [f_X5_spell, o_3 kd_187, x4_clear kd_187, p_4_2 kd_185, show (oI 0 : Int32) = 0 from rfl, e1, Option.bind_some, Sum.elim_inl]
    · have := hh.2.2
      unfold finN at this
      omega
