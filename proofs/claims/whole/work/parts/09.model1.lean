set_option maxHeartbeats 4000000 in
set_option maxRecDepth 100000 in
theorem c_BlockDeskModel_hold (l : Launch) (dC : Nat → ClassId) (dI : Nat → Nat → Nat) (sz : Nat) (b0 : Nat) (b1 : Nat) (b2 : Nat) (b3 : Nat) (b4 : Nat) (N : Nat) (rc : Nat) (bg : Nat) (en : Nat) (ss : Nat) (hs : Nat) (up : Int32) (ch : Int32) (wr : Int32) (o1 : ClassId) (g1 : Nat → Int32) (v : Int32) (hh : hs < 8000) : Met l y_BlockDeskModel_hold w_BlockDeskModel_hold ({ frames := 0, cells := 0, slots := 0, locals := 0 }) (va_Pc [.ref b0, .int v] (fun U => U.heap.size = sz ∧ va_P (dC, dI) classes [(b0, .inr (1, [.int (nI N), .int up, .int ch, .int wr, .int (nI bg), .int (nI en), .ref b1, .int (nI hs), .ref b2, .int (nI ss), .ref b3, .ref b4, .int (nI rc)])), (b1, .inl (o1, 8000, .inl g1))] U.heap ∧ va_K (dC, dI) classes [(o1, .int)] U ∧ va_D (fun _ => True) [(b0, .inr (1, [.int (nI N), .int up, .int ch, .int wr, .int (nI bg), .int (nI en), .ref b1, .int (nI hs), .ref b2, .int (nI ss), .ref b3, .ref b4, .int (nI rc)])), (b1, .inl (o1, 8000, .inl g1))])) (va_Qi (fun (r : Int32) (_ : Unit) => r = nI 1) (fun (_ : Unit) (t : State) => va_P (dC, dI) classes [(b0, .inr (1, [.int (nI N), .int up, .int ch, .int wr, .int (nI bg), .int (nI en), .ref b1, .int (nI (hs + 1)), .ref b2, .int (nI ss), .ref b3, .ref b4, .int (nI rc)])), (b1, .inl (o1, 8000, .inl (upd g1 hs (v &&& nI 255))))] t.heap ∧ va_K (dC, dI) classes [(o1, .int)] t ∧ va_D (va_A [(b0, .inr (1, [.int (nI N), .int up, .int ch, .int wr, .int (nI bg), .int (nI en), .ref b1, .int (nI hs), .ref b2, .int (nI ss), .ref b3, .ref b4, .int (nI rc)])), (b1, .inl (o1, 8000, .inl g1))] sz) [(b0, .inr (1, [.int (nI N), .int up, .int ch, .int wr, .int (nI bg), .int (nI en), .ref b1, .int (nI (hs + 1)), .ref b2, .int (nI ss), .ref b3, .ref b4, .int (nI rc)])), (b1, .inl (o1, 8000, .inl (upd g1 hs (v &&& nI 255))))]) (va_A [(b0, .inr (1, [.int (nI N), .int up, .int ch, .int wr, .int (nI bg), .int (nI en), .ref b1, .int (nI hs), .ref b2, .int (nI ss), .ref b3, .ref b4, .int (nI rc)])), (b1, .inl (o1, 8000, .inl g1))] sz)) 0 0 (va_A [(b0, .inr (1, [.int (nI N), .int up, .int ch, .int wr, .int (nI bg), .int (nI en), .ref b1, .int (nI hs), .ref b2, .int (nI ss), .ref b3, .ref b4, .int (nI rc)])), (b1, .inl (o1, 8000, .inl g1))] sz) := by
  refine Met.ofW (cc := b_BlockDeskModel_hold) (maxL := 2) (ret := (some .boolean)) (by decide) rfl ?_
  intro p e s m args below meth c s₁ B hml hv
  obtain ⟨rfl, hsz, hP, hK, hD0⟩ := hv
  have hx := B.exec
  have hb := B.bytes
  have hr := B.returns
  have hts := atoms_spec (ws := w_BlockDeskModel_hold) B.pre
  have hown : s.vm.findClass R_BlockDeskModel = some m.cls := findClass_of_methodNamed B.named
  have hlocks := B.notSynchronized
  subst hsz
  have hD := hD0.self (sz := s.heap.size)
  generalize hAe : va_A [(b0, .inr (1, [.int (nI N), .int up, .int ch, .int wr, .int (nI bg), .int (nI en), .ref b1, .int (nI hs), .ref b2, .int (nI ss), .ref b3, .ref b4, .int (nI rc)])), (b1, .inl (o1, 8000, .inl g1))] s.heap.size = A at hD ⊢
  have hA : ∀ q : Nat, s.heap.size ≤ q → A q := fun q h => by rw [← hAe]; exact Or.inr h
  have hS : va_S A s.heap s.heap [] := va_S.rf
  have hP : va_P (dC, dI) classes [(b0, .inr (1, [.int (nI N), .int up, .int ch, .int wr, .int (nI bg), .int (nI en), .ref b1, .int (nI hs), .ref b2, .int (nI ss), .ref b3, .ref b4, .int (nI rc)])), (b1, .inl (o1, 8000, .inl g1))] s.heap := hP
  have hin1 : ∀ w ∈ u_ws R_BlockDeskModel F_BlockDeskModel 13, w ∈ w_BlockDeskModel_hold := by decide +kernel
  have hl := lv_entry ([.ref b0, .int v]) (n := 2) (Nat.le_of_ble_eq_true rfl)
  rw [lg_entry_eq]
  generalize (lg_sl ([.ref b0, .int v]) ++ List.replicate (2 - (lg_sl ([.ref b0, .int v])).length) Slot.unset).toArray = ls at hl ⊢
  have hl : lv_has ls 2 [(0, .ref b0), (1, .int v)] := hl
  refine lv_aload_n hx hb d_BlockDeskModel_hold_0 rfl (lv_at hl 0 rfl) ?_
  refine va_get (D := (dC, dI)) (ci := 1) (v := .ref b1) (C := R_BlockDeskModel) (T := F_BlockDeskModel) (N := 13) hx hb hts hin1 hown hK hP 0 rfl rfl 6 (by decide) (hts (.fieldLink R_BlockDeskModel 17 "BlockDeskModel" "hand" "[I") (by decide +kernel)) (fun _ h9 => h9) rfl d_BlockDeskModel_hold_1 ?_
  refine lv_aload_n hx hb d_BlockDeskModel_hold_4 rfl (lv_at hl 0 rfl) ?_
  refine va_get (D := (dC, dI)) (ci := 1) (v := .int (nI hs)) (C := R_BlockDeskModel) (T := F_BlockDeskModel) (N := 13) hx hb hts hin1 hown hK hP 0 rfl rfl 7 (by decide) (hts (.fieldLink R_BlockDeskModel 33 "BlockDeskModel" "inHand" "I") (by decide +kernel)) (fun _ h9 => h9) rfl d_BlockDeskModel_hold_5 ?_
  refine lv_iload_n hx hb d_BlockDeskModel_hold_8 rfl (lv_at hl 1 rfl) ?_
  refine lv_sipush (v := nI 255) hx hb d_BlockDeskModel_hold_9 (by decide +kernel) ?_
  refine lv_iand hx hb d_BlockDeskModel_hold_12 ?_
  refine va_iast hx hb hK hP hD hS 1 0 rfl rfl (vp_in_nI (by omega) (by omega)) d_BlockDeskModel_hold_13 (fun H locs hP hD hS => ?_)
  rw [nI_clamp (n := hs) (by omega)] at hP hD
  have hP : va_P (dC, dI) classes [(b0, .inr (1, [.int (nI N), .int up, .int ch, .int wr, .int (nI bg), .int (nI en), .ref b1, .int (nI hs), .ref b2, .int (nI ss), .ref b3, .ref b4, .int (nI rc)])), (b1, .inl (o1, 8000, .inl (upd g1 hs (v &&& (nI 255)))))] H := hP
  have hD : va_D A [(b0, .inr (1, [.int (nI N), .int up, .int ch, .int wr, .int (nI bg), .int (nI en), .ref b1, .int (nI hs), .ref b2, .int (nI ss), .ref b3, .ref b4, .int (nI rc)])), (b1, .inl (o1, 8000, .inl (upd g1 hs (v &&& (nI 255)))))] := hD
  refine lv_aload_n hx hb d_BlockDeskModel_hold_14 rfl (lv_at hl 0 rfl) ?_
  refine lv_aload_n hx hb d_BlockDeskModel_hold_15 rfl (lv_at hl 0 rfl) ?_
  refine va_get (D := (dC, dI)) (ci := 1) (v := .int (nI hs)) (C := R_BlockDeskModel) (T := F_BlockDeskModel) (N := 13) hx hb hts hin1 hown hK hP 0 rfl rfl 7 (by decide) (hts (.fieldLink R_BlockDeskModel 33 "BlockDeskModel" "inHand" "I") (by decide +kernel)) (fun _ h9 => h9) rfl d_BlockDeskModel_hold_16 ?_
  refine lv_iconst (v := nI 1) hx hb d_BlockDeskModel_hold_19 (by decide +kernel) ?_
  refine lv_iadd hx hb d_BlockDeskModel_hold_20 ?_
  refine xq_top (nI (hs + 1)) (nI_add _ _) ?_
  refine va_put (D := (dC, dI)) (ci := 1) (v := .int (nI (hs + 1))) (ty := .int) (C := R_BlockDeskModel) (T := F_BlockDeskModel) (N := 13) hx hb hts hin1 t_BlockDeskModel t_BlockDeskModel_ok n_BlockDeskModel hown hK hP hD hS 0 rfl rfl 7 (by decide) (hts (.fieldLink R_BlockDeskModel 33 "BlockDeskModel" "inHand" "I") (by decide +kernel)) (fun _ h9 => h9) rfl (by decide +kernel) rfl rfl (Nat.le_of_ble_eq_true rfl) d_BlockDeskModel_hold_21 (fun H locs hP hD hS => ?_)
  have hP : va_P (dC, dI) classes [(b0, .inr (1, [.int (nI N), .int up, .int ch, .int wr, .int (nI bg), .int (nI en), .ref b1, .int (nI (hs + 1)), .ref b2, .int (nI ss), .ref b3, .ref b4, .int (nI rc)])), (b1, .inl (o1, 8000, .inl (upd g1 hs (v &&& (nI 255)))))] H := hP
  have hD : va_D A [(b0, .inr (1, [.int (nI N), .int up, .int ch, .int wr, .int (nI bg), .int (nI en), .ref b1, .int (nI (hs + 1)), .ref b2, .int (nI ss), .ref b3, .ref b4, .int (nI rc)])), (b1, .inl (o1, 8000, .inl (upd g1 hs (v &&& (nI 255)))))] := hD
  refine lv_iconst (v := nI 1) hx hb d_BlockDeskModel_hold_24 (by decide +kernel) ?_
  have hP9 := hP.sub (ws' := [(b0, .inr (1, [.int (nI N), .int up, .int ch, .int wr, .int (nI bg), .int (nI en), .ref b1, .int (nI (hs + 1)), .ref b2, .int (nI ss), .ref b3, .ref b4, .int (nI rc)])), (b1, .inl (o1, 8000, .inl (upd g1 hs (v &&& (nI 255)))))]) [0, 1] rfl
  have hD9 := hD.sub (ws' := [(b0, .inr (1, [.int (nI N), .int up, .int ch, .int wr, .int (nI bg), .int (nI en), .ref b1, .int (nI (hs + 1)), .ref b2, .int (nI ss), .ref b3, .ref b4, .int (nI rc)])), (b1, .inl (o1, 8000, .inl (upd g1 hs (v &&& (nI 255)))))]) [0, 1] (by decide) rfl
  have hK9 := hK.sub (tys' := [(o1, .int)]) [0] rfl
  exact W.zret (v := nI 1) hx hb hr zq_nb1 (fun t ht hW => ⟨⟨nI 1, (), rfl, rfl, by rw [ht]; exact hP9, va_K.moved hW.alike hK9, hD9⟩, hS.F ht⟩) hS.2.2 d_BlockDeskModel_hold_25
set_option maxHeartbeats 4000000 in
set_option maxRecDepth 100000 in
theorem c_BlockDeskModel_write (l : Launch) (dC : Nat → ClassId) (dI : Nat → Nat → Nat) (sz : Nat) (b0 : Nat) (b1 : Nat) (b2 : Nat) (b3 : Nat) (b4 : Nat) (N : Nat) (rc : Nat) (bg : Nat) (en : Nat) (ss : Nat) (hs : Nat) (up : Int32) (ch : Int32) (wr : Int32) (n : Int32) (hch : zq_chok ch) : Met l y_BlockDeskModel_write w_BlockDeskModel_write ({ frames := 0, cells := 0, slots := 0, locals := 0 }) (va_Pc [.ref b0, .int n] (fun U => U.heap.size = sz ∧ va_P (dC, dI) classes [(b0, .inr (1, [.int (nI N), .int up, .int ch, .int wr, .int (nI bg), .int (nI en), .ref b1, .int (nI hs), .ref b2, .int (nI ss), .ref b3, .ref b4, .int (nI rc)]))] U.heap ∧ va_K (dC, dI) classes [] U ∧ va_D (fun _ => True) [(b0, .inr (1, [.int (nI N), .int up, .int ch, .int wr, .int (nI bg), .int (nI en), .ref b1, .int (nI hs), .ref b2, .int (nI ss), .ref b3, .ref b4, .int (nI rc)]))])) (va_Qi (fun (r : Int32) (u : Int32 × Nat × Int32 × Int32) => (r, u) = zq_wb up hs ch wr n) (fun (u : Int32 × Nat × Int32 × Int32) (t : State) => match u with | (up', hs', ch', wr') => va_P (dC, dI) classes [(b0, .inr (1, [.int (nI N), .int up', .int ch', .int wr', .int (nI bg), .int (nI en), .ref b1, .int (nI hs'), .ref b2, .int (nI ss), .ref b3, .ref b4, .int (nI rc)]))] t.heap ∧ va_K (dC, dI) classes [] t ∧ va_D (va_A [(b0, .inr (1, [.int (nI N), .int up, .int ch, .int wr, .int (nI bg), .int (nI en), .ref b1, .int (nI hs), .ref b2, .int (nI ss), .ref b3, .ref b4, .int (nI rc)]))] sz) [(b0, .inr (1, [.int (nI N), .int up', .int ch', .int wr', .int (nI bg), .int (nI en), .ref b1, .int (nI hs'), .ref b2, .int (nI ss), .ref b3, .ref b4, .int (nI rc)]))]) (va_A [(b0, .inr (1, [.int (nI N), .int up, .int ch, .int wr, .int (nI bg), .int (nI en), .ref b1, .int (nI hs), .ref b2, .int (nI ss), .ref b3, .ref b4, .int (nI rc)]))] sz)) 0 0 (va_A [(b0, .inr (1, [.int (nI N), .int up, .int ch, .int wr, .int (nI bg), .int (nI en), .ref b1, .int (nI hs), .ref b2, .int (nI ss), .ref b3, .ref b4, .int (nI rc)]))] sz) := by
  refine Met.ofW (cc := b_BlockDeskModel_write) (maxL := 3) (ret := (some .boolean)) (by decide) rfl ?_
  intro p e s m args below meth c s₁ B hml hv
  obtain ⟨rfl, hsz, hP, hK, hD0⟩ := hv
  have hx := B.exec
  have hb := B.bytes
  have hr := B.returns
  have hts := atoms_spec (ws := w_BlockDeskModel_write) B.pre
  have hown : s.vm.findClass R_BlockDeskModel = some m.cls := findClass_of_methodNamed B.named
  have hlocks := B.notSynchronized
  subst hsz
  have hD := hD0.self (sz := s.heap.size)
  generalize hAe : va_A [(b0, .inr (1, [.int (nI N), .int up, .int ch, .int wr, .int (nI bg), .int (nI en), .ref b1, .int (nI hs), .ref b2, .int (nI ss), .ref b3, .ref b4, .int (nI rc)]))] s.heap.size = A at hD ⊢
  have hA : ∀ q : Nat, s.heap.size ≤ q → A q := fun q h => by rw [← hAe]; exact Or.inr h
  have hS : va_S A s.heap s.heap [] := va_S.rf
  have hP : va_P (dC, dI) classes [(b0, .inr (1, [.int (nI N), .int up, .int ch, .int wr, .int (nI bg), .int (nI en), .ref b1, .int (nI hs), .ref b2, .int (nI ss), .ref b3, .ref b4, .int (nI rc)]))] s.heap := hP
  have hin1 : ∀ w ∈ u_ws R_BlockDeskModel F_BlockDeskModel 13, w ∈ w_BlockDeskModel_write := by decide +kernel
  have hl := lv_entry ([.ref b0, .int n]) (n := 3) (Nat.le_of_ble_eq_true rfl)
  rw [lg_entry_eq]
  generalize (lg_sl ([.ref b0, .int n]) ++ List.replicate (3 - (lg_sl ([.ref b0, .int n])).length) Slot.unset).toArray = ls at hl ⊢
  have hl : lv_has ls 3 [(0, .ref b0), (1, .int n)] := hl
  refine lv_aload_n hx hb d_BlockDeskModel_write_0 rfl (lv_at hl 0 rfl) ?_
  refine va_get (D := (dC, dI)) (ci := 1) (v := .int ch) (C := R_BlockDeskModel) (T := F_BlockDeskModel) (N := 13) hx hb hts hin1 hown hK hP 0 rfl rfl 2 (by decide) (hts (.fieldLink R_BlockDeskModel 13 "BlockDeskModel" "charge" "I") (by decide +kernel)) (fun _ h9 => h9) rfl d_BlockDeskModel_write_1 ?_
  refine lv_if_lt (tgt := 15) hx hb d_BlockDeskModel_write_4 (by decide) (fun c_4 => ?_) (fun c_4 => ?_)
  · have c_4 : ch.toInt < 0 := xq_lt_0r.mp c_4
    have e1 : ch = -1 := by rcases hch with h9 | ⟨z, hz, h9⟩; exact h9; rw [h9, nI_toInt (by omega)] at c_4; omega
    subst e1
    refine lv_iconst (v := nI 1) hx hb d_BlockDeskModel_write_15 (by decide +kernel) ?_
    refine lv_goto (tgt := 20) hx hb d_BlockDeskModel_write_16 (by decide) ?_
    refine lv_istore_n (lv' := [(2, .int (nI 1)), (0, .ref b0), (1, .int n)]) hx hb d_BlockDeskModel_write_20 rfl hl (by decide) rfl (fun ls hl => ?_)
    refine lv_aload_n hx hb d_BlockDeskModel_write_21 rfl (lv_at hl 1 rfl) ?_
    refine lv_aload_n hx hb d_BlockDeskModel_write_22 rfl (lv_at hl 1 rfl) ?_
    refine va_get (D := (dC, dI)) (ci := 1) (v := .int wr) (C := R_BlockDeskModel) (T := F_BlockDeskModel) (N := 13) hx hb hts hin1 hown hK hP 0 rfl rfl 3 (by decide) (hts (.fieldLink R_BlockDeskModel 40 "BlockDeskModel" "written" "I") (by decide +kernel)) (fun _ h9 => h9) rfl d_BlockDeskModel_write_23 ?_
    refine lv_iload_n hx hb d_BlockDeskModel_write_26 rfl (lv_at hl 0 rfl) ?_
    refine lv_if_eq (tgt := 34) hx hb d_BlockDeskModel_write_27 (by decide) (fun c_27 => ?_) (fun c_27 => ?_)
    · exact absurd c_27 (xq_n0 (by omega) (by omega))
    · refine lv_iload_n hx hb d_BlockDeskModel_write_30 rfl (lv_at hl 2 rfl) ?_
      refine lv_goto (tgt := 38) hx hb d_BlockDeskModel_write_31 (by decide) ?_
      refine lv_iadd hx hb d_BlockDeskModel_write_38 ?_
      refine va_put (D := (dC, dI)) (ci := 1) (v := .int (wr + n)) (ty := .int) (C := R_BlockDeskModel) (T := F_BlockDeskModel) (N := 13) hx hb hts hin1 t_BlockDeskModel t_BlockDeskModel_ok n_BlockDeskModel hown hK hP hD hS 0 rfl rfl 3 (by decide) (hts (.fieldLink R_BlockDeskModel 40 "BlockDeskModel" "written" "I") (by decide +kernel)) (fun _ h9 => h9) rfl (by decide +kernel) rfl rfl (Nat.le_of_ble_eq_true rfl) d_BlockDeskModel_write_39 (fun H locs hP hD hS => ?_)
      have hP : va_P (dC, dI) classes [(b0, .inr (1, [.int (nI N), .int up, .int (-1), .int (wr + n), .int (nI bg), .int (nI en), .ref b1, .int (nI hs), .ref b2, .int (nI ss), .ref b3, .ref b4, .int (nI rc)]))] H := hP
      have hD : va_D A [(b0, .inr (1, [.int (nI N), .int up, .int (-1), .int (wr + n), .int (nI bg), .int (nI en), .ref b1, .int (nI hs), .ref b2, .int (nI ss), .ref b3, .ref b4, .int (nI rc)]))] := hD
      refine lv_aload_n hx hb d_BlockDeskModel_write_42 rfl (lv_at hl 1 rfl) ?_
      refine lv_iload_n hx hb d_BlockDeskModel_write_43 rfl (lv_at hl 0 rfl) ?_
      refine lv_if_eq (tgt := 63) hx hb d_BlockDeskModel_write_44 (by decide) (fun c_44 => ?_) (fun c_44 => ?_)
      · exact absurd c_44 (xq_n0 (by omega) (by omega))
      · refine lv_aload_n hx hb d_BlockDeskModel_write_47 rfl (lv_at hl 1 rfl) ?_
        refine va_get (D := (dC, dI)) (ci := 1) (v := .int (-1)) (C := R_BlockDeskModel) (T := F_BlockDeskModel) (N := 13) hx hb hts hin1 hown hK hP 0 rfl rfl 2 (by decide) (hts (.fieldLink R_BlockDeskModel 13 "BlockDeskModel" "charge" "I") (by decide +kernel)) (fun _ h9 => h9) rfl d_BlockDeskModel_write_48 ?_
        refine lv_if_lt (tgt := 63) hx hb d_BlockDeskModel_write_51 (by decide) (fun c_51 => ?_) (fun c_51 => ?_)
        · refine lv_iconst (v := (-1)) hx hb d_BlockDeskModel_write_63 (by decide +kernel) ?_
          refine va_put (D := (dC, dI)) (ci := 1) (v := .int (-1)) (ty := .int) (C := R_BlockDeskModel) (T := F_BlockDeskModel) (N := 13) hx hb hts hin1 t_BlockDeskModel t_BlockDeskModel_ok n_BlockDeskModel hown hK hP hD hS 0 rfl rfl 2 (by decide) (hts (.fieldLink R_BlockDeskModel 13 "BlockDeskModel" "charge" "I") (by decide +kernel)) (fun _ h9 => h9) rfl (by decide +kernel) rfl rfl (Nat.le_of_ble_eq_true rfl) d_BlockDeskModel_write_64 (fun H locs hP hD hS => ?_)
          have hP : va_P (dC, dI) classes [(b0, .inr (1, [.int (nI N), .int up, .int (-1), .int (wr + n), .int (nI bg), .int (nI en), .ref b1, .int (nI hs), .ref b2, .int (nI ss), .ref b3, .ref b4, .int (nI rc)]))] H := hP
          have hD : va_D A [(b0, .inr (1, [.int (nI N), .int up, .int (-1), .int (wr + n), .int (nI bg), .int (nI en), .ref b1, .int (nI hs), .ref b2, .int (nI ss), .ref b3, .ref b4, .int (nI rc)]))] := hD
          refine lv_iload_n hx hb d_BlockDeskModel_write_67 rfl (lv_at hl 0 rfl) ?_
          refine lv_if_ne (tgt := 81) hx hb d_BlockDeskModel_write_68 (by decide) (fun c_68 => ?_) (fun c_68 => ?_)
          · refine lv_iload_n hx hb d_BlockDeskModel_write_81 rfl (lv_at hl 0 rfl) ?_
            have hP9 := hP.sub (ws' := [(b0, .inr (1, [.int (nI N), .int up, .int (-1), .int (wr + n), .int (nI bg), .int (nI en), .ref b1, .int (nI hs), .ref b2, .int (nI ss), .ref b3, .ref b4, .int (nI rc)]))]) [0] rfl
            have hD9 := hD.sub (ws' := [(b0, .inr (1, [.int (nI N), .int up, .int (-1), .int (wr + n), .int (nI bg), .int (nI en), .ref b1, .int (nI hs), .ref b2, .int (nI ss), .ref b3, .ref b4, .int (nI rc)]))]) [0] (by decide) rfl
            have hK9 := hK.sub (tys' := []) [] rfl
            exact W.zret (v := nI 1) hx hb hr zq_nb1 (fun t ht hW => ⟨⟨nI 1, (up, hs, (-1), wr + n), rfl, (zq_wb_a rfl).symm, by rw [ht]; exact hP9, va_K.moved hW.alike hK9, hD9⟩, hS.F ht⟩) hS.2.2 d_BlockDeskModel_write_82
          · exact absurd c_68 (xq_n0 (by omega) (by omega))
        · exact absurd (by decide +kernel) c_51
  · have c_4 : ¬ (ch.toInt < 0) := fun h9 => c_4 (xq_lt_0r.mpr h9)
    refine lv_aload_n hx hb d_BlockDeskModel_write_7 rfl (lv_at hl 0 rfl) ?_
    refine va_get (D := (dC, dI)) (ci := 1) (v := .int ch) (C := R_BlockDeskModel) (T := F_BlockDeskModel) (N := 13) hx hb hts hin1 hown hK hP 0 rfl rfl 2 (by decide) (hts (.fieldLink R_BlockDeskModel 13 "BlockDeskModel" "charge" "I") (by decide +kernel)) (fun _ h9 => h9) rfl d_BlockDeskModel_write_8 ?_
    refine lv_iload_n hx hb d_BlockDeskModel_write_11 rfl (lv_at hl 1 rfl) ?_
    refine lv_icmp_lt (tgt := 19) hx hb d_BlockDeskModel_write_12 (by decide) (fun c_12 => ?_) (fun c_12 => ?_)
    · have c_12 : ch.toInt < n.toInt := xq_lt.mp c_12
      refine lv_iconst (v := nI 0) hx hb d_BlockDeskModel_write_19 (by decide +kernel) ?_
      refine lv_istore_n (lv' := [(2, .int (nI 0)), (0, .ref b0), (1, .int n)]) hx hb d_BlockDeskModel_write_20 rfl hl (by decide) rfl (fun ls hl => ?_)
      refine lv_aload_n hx hb d_BlockDeskModel_write_21 rfl (lv_at hl 1 rfl) ?_
      refine lv_aload_n hx hb d_BlockDeskModel_write_22 rfl (lv_at hl 1 rfl) ?_
      refine va_get (D := (dC, dI)) (ci := 1) (v := .int wr) (C := R_BlockDeskModel) (T := F_BlockDeskModel) (N := 13) hx hb hts hin1 hown hK hP 0 rfl rfl 3 (by decide) (hts (.fieldLink R_BlockDeskModel 40 "BlockDeskModel" "written" "I") (by decide +kernel)) (fun _ h9 => h9) rfl d_BlockDeskModel_write_23 ?_
      refine lv_iload_n hx hb d_BlockDeskModel_write_26 rfl (lv_at hl 0 rfl) ?_
      refine lv_if_eq (tgt := 34) hx hb d_BlockDeskModel_write_27 (by decide) (fun c_27 => ?_) (fun c_27 => ?_)
      · refine lv_aload_n hx hb d_BlockDeskModel_write_34 rfl (lv_at hl 1 rfl) ?_
        refine va_get (D := (dC, dI)) (ci := 1) (v := .int ch) (C := R_BlockDeskModel) (T := F_BlockDeskModel) (N := 13) hx hb hts hin1 hown hK hP 0 rfl rfl 2 (by decide) (hts (.fieldLink R_BlockDeskModel 13 "BlockDeskModel" "charge" "I") (by decide +kernel)) (fun _ h9 => h9) rfl d_BlockDeskModel_write_35 ?_
        refine lv_iadd hx hb d_BlockDeskModel_write_38 ?_
        refine va_put (D := (dC, dI)) (ci := 1) (v := .int (wr + ch)) (ty := .int) (C := R_BlockDeskModel) (T := F_BlockDeskModel) (N := 13) hx hb hts hin1 t_BlockDeskModel t_BlockDeskModel_ok n_BlockDeskModel hown hK hP hD hS 0 rfl rfl 3 (by decide) (hts (.fieldLink R_BlockDeskModel 40 "BlockDeskModel" "written" "I") (by decide +kernel)) (fun _ h9 => h9) rfl (by decide +kernel) rfl rfl (Nat.le_of_ble_eq_true rfl) d_BlockDeskModel_write_39 (fun H locs hP hD hS => ?_)
        have hP : va_P (dC, dI) classes [(b0, .inr (1, [.int (nI N), .int up, .int ch, .int (wr + ch), .int (nI bg), .int (nI en), .ref b1, .int (nI hs), .ref b2, .int (nI ss), .ref b3, .ref b4, .int (nI rc)]))] H := hP
        have hD : va_D A [(b0, .inr (1, [.int (nI N), .int up, .int ch, .int (wr + ch), .int (nI bg), .int (nI en), .ref b1, .int (nI hs), .ref b2, .int (nI ss), .ref b3, .ref b4, .int (nI rc)]))] := hD
        refine lv_aload_n hx hb d_BlockDeskModel_write_42 rfl (lv_at hl 1 rfl) ?_
        refine lv_iload_n hx hb d_BlockDeskModel_write_43 rfl (lv_at hl 0 rfl) ?_
        refine lv_if_eq (tgt := 63) hx hb d_BlockDeskModel_write_44 (by decide) (fun c_44 => ?_) (fun c_44 => ?_)
        · refine lv_iconst (v := (-1)) hx hb d_BlockDeskModel_write_63 (by decide +kernel) ?_
          refine va_put (D := (dC, dI)) (ci := 1) (v := .int (-1)) (ty := .int) (C := R_BlockDeskModel) (T := F_BlockDeskModel) (N := 13) hx hb hts hin1 t_BlockDeskModel t_BlockDeskModel_ok n_BlockDeskModel hown hK hP hD hS 0 rfl rfl 2 (by decide) (hts (.fieldLink R_BlockDeskModel 13 "BlockDeskModel" "charge" "I") (by decide +kernel)) (fun _ h9 => h9) rfl (by decide +kernel) rfl rfl (Nat.le_of_ble_eq_true rfl) d_BlockDeskModel_write_64 (fun H locs hP hD hS => ?_)
          have hP : va_P (dC, dI) classes [(b0, .inr (1, [.int (nI N), .int up, .int (-1), .int (wr + ch), .int (nI bg), .int (nI en), .ref b1, .int (nI hs), .ref b2, .int (nI ss), .ref b3, .ref b4, .int (nI rc)]))] H := hP
          have hD : va_D A [(b0, .inr (1, [.int (nI N), .int up, .int (-1), .int (wr + ch), .int (nI bg), .int (nI en), .ref b1, .int (nI hs), .ref b2, .int (nI ss), .ref b3, .ref b4, .int (nI rc)]))] := hD
          refine lv_iload_n hx hb d_BlockDeskModel_write_67 rfl (lv_at hl 0 rfl) ?_
          refine lv_if_ne (tgt := 81) hx hb d_BlockDeskModel_write_68 (by decide) (fun c_68 => ?_) (fun c_68 => ?_)
          · exact absurd rfl c_68
          · refine lv_aload_n hx hb d_BlockDeskModel_write_71 rfl (lv_at hl 1 rfl) ?_
            refine lv_iconst (v := nI 0) hx hb d_BlockDeskModel_write_72 (by decide +kernel) ?_
            refine va_put (D := (dC, dI)) (ci := 1) (v := .int (nI 0)) (ty := .boolean) (C := R_BlockDeskModel) (T := F_BlockDeskModel) (N := 13) hx hb hts hin1 t_BlockDeskModel t_BlockDeskModel_ok n_BlockDeskModel hown hK hP hD hS 0 rfl rfl 1 (by decide) (hts (.fieldLink R_BlockDeskModel 7 "BlockDeskModel" "up" "Z") (by decide +kernel)) (fun _ h9 => h9) rfl (by decide +kernel) zq_nb0 zq_fb0 (Nat.le_of_ble_eq_true rfl) d_BlockDeskModel_write_73 (fun H locs hP hD hS => ?_)
            have hP : va_P (dC, dI) classes [(b0, .inr (1, [.int (nI N), .int (nI 0), .int (-1), .int (wr + ch), .int (nI bg), .int (nI en), .ref b1, .int (nI hs), .ref b2, .int (nI ss), .ref b3, .ref b4, .int (nI rc)]))] H := hP
            have hD : va_D A [(b0, .inr (1, [.int (nI N), .int (nI 0), .int (-1), .int (wr + ch), .int (nI bg), .int (nI en), .ref b1, .int (nI hs), .ref b2, .int (nI ss), .ref b3, .ref b4, .int (nI rc)]))] := hD
            refine lv_aload_n hx hb d_BlockDeskModel_write_76 rfl (lv_at hl 1 rfl) ?_
            refine lv_iconst (v := nI 0) hx hb d_BlockDeskModel_write_77 (by decide +kernel) ?_
            refine va_put (D := (dC, dI)) (ci := 1) (v := .int (nI 0)) (ty := .int) (C := R_BlockDeskModel) (T := F_BlockDeskModel) (N := 13) hx hb hts hin1 t_BlockDeskModel t_BlockDeskModel_ok n_BlockDeskModel hown hK hP hD hS 0 rfl rfl 7 (by decide) (hts (.fieldLink R_BlockDeskModel 33 "BlockDeskModel" "inHand" "I") (by decide +kernel)) (fun _ h9 => h9) rfl (by decide +kernel) rfl rfl (Nat.le_of_ble_eq_true rfl) d_BlockDeskModel_write_78 (fun H locs hP hD hS => ?_)
            have hP : va_P (dC, dI) classes [(b0, .inr (1, [.int (nI N), .int (nI 0), .int (-1), .int (wr + ch), .int (nI bg), .int (nI en), .ref b1, .int (nI 0), .ref b2, .int (nI ss), .ref b3, .ref b4, .int (nI rc)]))] H := hP
            have hD : va_D A [(b0, .inr (1, [.int (nI N), .int (nI 0), .int (-1), .int (wr + ch), .int (nI bg), .int (nI en), .ref b1, .int (nI 0), .ref b2, .int (nI ss), .ref b3, .ref b4, .int (nI rc)]))] := hD
            refine lv_iload_n hx hb d_BlockDeskModel_write_81 rfl (lv_at hl 0 rfl) ?_
            have hP9 := hP.sub (ws' := [(b0, .inr (1, [.int (nI N), .int (nI 0), .int (-1), .int (wr + ch), .int (nI bg), .int (nI en), .ref b1, .int (nI 0), .ref b2, .int (nI ss), .ref b3, .ref b4, .int (nI rc)]))]) [0] rfl
            have hD9 := hD.sub (ws' := [(b0, .inr (1, [.int (nI N), .int (nI 0), .int (-1), .int (wr + ch), .int (nI bg), .int (nI en), .ref b1, .int (nI 0), .ref b2, .int (nI ss), .ref b3, .ref b4, .int (nI rc)]))]) [0] (by decide) rfl
            have hK9 := hK.sub (tys' := []) [] rfl
            exact W.zret (v := nI 0) hx hb hr zq_nb0 (fun t ht hW => ⟨⟨nI 0, (nI 0, 0, (-1), wr + ch), rfl, (zq_wb_b (fun h9 => c_4 (by rw [h9, xq_m1T]; omega)) (xq_lt.mpr c_12)).symm, by rw [ht]; exact hP9, va_K.moved hW.alike hK9, hD9⟩, hS.F ht⟩) hS.2.2 d_BlockDeskModel_write_82
        · exact absurd rfl c_44
      · exact absurd rfl c_27
    · have c_12 : ¬ (ch.toInt < n.toInt) := fun h9 => c_12 (xq_lt.mpr h9)
      refine lv_iconst (v := nI 1) hx hb d_BlockDeskModel_write_15 (by decide +kernel) ?_
      refine lv_goto (tgt := 20) hx hb d_BlockDeskModel_write_16 (by decide) ?_
      refine lv_istore_n (lv' := [(2, .int (nI 1)), (0, .ref b0), (1, .int n)]) hx hb d_BlockDeskModel_write_20 rfl hl (by decide) rfl (fun ls hl => ?_)
      refine lv_aload_n hx hb d_BlockDeskModel_write_21 rfl (lv_at hl 1 rfl) ?_
      refine lv_aload_n hx hb d_BlockDeskModel_write_22 rfl (lv_at hl 1 rfl) ?_
      refine va_get (D := (dC, dI)) (ci := 1) (v := .int wr) (C := R_BlockDeskModel) (T := F_BlockDeskModel) (N := 13) hx hb hts hin1 hown hK hP 0 rfl rfl 3 (by decide) (hts (.fieldLink R_BlockDeskModel 40 "BlockDeskModel" "written" "I") (by decide +kernel)) (fun _ h9 => h9) rfl d_BlockDeskModel_write_23 ?_
      refine lv_iload_n hx hb d_BlockDeskModel_write_26 rfl (lv_at hl 0 rfl) ?_
      refine lv_if_eq (tgt := 34) hx hb d_BlockDeskModel_write_27 (by decide) (fun c_27 => ?_) (fun c_27 => ?_)
      · exact absurd c_27 (xq_n0 (by omega) (by omega))
      · refine lv_iload_n hx hb d_BlockDeskModel_write_30 rfl (lv_at hl 2 rfl) ?_
        refine lv_goto (tgt := 38) hx hb d_BlockDeskModel_write_31 (by decide) ?_
        refine lv_iadd hx hb d_BlockDeskModel_write_38 ?_
        refine va_put (D := (dC, dI)) (ci := 1) (v := .int (wr + n)) (ty := .int) (C := R_BlockDeskModel) (T := F_BlockDeskModel) (N := 13) hx hb hts hin1 t_BlockDeskModel t_BlockDeskModel_ok n_BlockDeskModel hown hK hP hD hS 0 rfl rfl 3 (by decide) (hts (.fieldLink R_BlockDeskModel 40 "BlockDeskModel" "written" "I") (by decide +kernel)) (fun _ h9 => h9) rfl (by decide +kernel) rfl rfl (Nat.le_of_ble_eq_true rfl) d_BlockDeskModel_write_39 (fun H locs hP hD hS => ?_)
        have hP : va_P (dC, dI) classes [(b0, .inr (1, [.int (nI N), .int up, .int ch, .int (wr + n), .int (nI bg), .int (nI en), .ref b1, .int (nI hs), .ref b2, .int (nI ss), .ref b3, .ref b4, .int (nI rc)]))] H := hP
        have hD : va_D A [(b0, .inr (1, [.int (nI N), .int up, .int ch, .int (wr + n), .int (nI bg), .int (nI en), .ref b1, .int (nI hs), .ref b2, .int (nI ss), .ref b3, .ref b4, .int (nI rc)]))] := hD
        refine lv_aload_n hx hb d_BlockDeskModel_write_42 rfl (lv_at hl 1 rfl) ?_
        refine lv_iload_n hx hb d_BlockDeskModel_write_43 rfl (lv_at hl 0 rfl) ?_
        refine lv_if_eq (tgt := 63) hx hb d_BlockDeskModel_write_44 (by decide) (fun c_44 => ?_) (fun c_44 => ?_)
        · exact absurd c_44 (xq_n0 (by omega) (by omega))
        · refine lv_aload_n hx hb d_BlockDeskModel_write_47 rfl (lv_at hl 1 rfl) ?_
          refine va_get (D := (dC, dI)) (ci := 1) (v := .int ch) (C := R_BlockDeskModel) (T := F_BlockDeskModel) (N := 13) hx hb hts hin1 hown hK hP 0 rfl rfl 2 (by decide) (hts (.fieldLink R_BlockDeskModel 13 "BlockDeskModel" "charge" "I") (by decide +kernel)) (fun _ h9 => h9) rfl d_BlockDeskModel_write_48 ?_
          refine lv_if_lt (tgt := 63) hx hb d_BlockDeskModel_write_51 (by decide) (fun c_51 => ?_) (fun c_51 => ?_)
          · have c_51 : ch.toInt < 0 := xq_lt_0r.mp c_51
            exact absurd c_51 c_4
          · have c_51 : ¬ (ch.toInt < 0) := fun h9 => c_51 (xq_lt_0r.mpr h9)
            refine lv_aload_n hx hb d_BlockDeskModel_write_54 rfl (lv_at hl 1 rfl) ?_
            refine va_get (D := (dC, dI)) (ci := 1) (v := .int ch) (C := R_BlockDeskModel) (T := F_BlockDeskModel) (N := 13) hx hb hts hin1 hown hK hP 0 rfl rfl 2 (by decide) (hts (.fieldLink R_BlockDeskModel 13 "BlockDeskModel" "charge" "I") (by decide +kernel)) (fun _ h9 => h9) rfl d_BlockDeskModel_write_55 ?_
            refine lv_iload_n hx hb d_BlockDeskModel_write_58 rfl (lv_at hl 2 rfl) ?_
            refine lv_isub hx hb d_BlockDeskModel_write_59 ?_
            refine lv_goto (tgt := 64) hx hb d_BlockDeskModel_write_60 (by decide) ?_
            refine va_put (D := (dC, dI)) (ci := 1) (v := .int (ch - n)) (ty := .int) (C := R_BlockDeskModel) (T := F_BlockDeskModel) (N := 13) hx hb hts hin1 t_BlockDeskModel t_BlockDeskModel_ok n_BlockDeskModel hown hK hP hD hS 0 rfl rfl 2 (by decide) (hts (.fieldLink R_BlockDeskModel 13 "BlockDeskModel" "charge" "I") (by decide +kernel)) (fun _ h9 => h9) rfl (by decide +kernel) rfl rfl (Nat.le_of_ble_eq_true rfl) d_BlockDeskModel_write_64 (fun H locs hP hD hS => ?_)
            have hP : va_P (dC, dI) classes [(b0, .inr (1, [.int (nI N), .int up, .int (ch - n), .int (wr + n), .int (nI bg), .int (nI en), .ref b1, .int (nI hs), .ref b2, .int (nI ss), .ref b3, .ref b4, .int (nI rc)]))] H := hP
            have hD : va_D A [(b0, .inr (1, [.int (nI N), .int up, .int (ch - n), .int (wr + n), .int (nI bg), .int (nI en), .ref b1, .int (nI hs), .ref b2, .int (nI ss), .ref b3, .ref b4, .int (nI rc)]))] := hD
            refine lv_iload_n hx hb d_BlockDeskModel_write_67 rfl (lv_at hl 0 rfl) ?_
            refine lv_if_ne (tgt := 81) hx hb d_BlockDeskModel_write_68 (by decide) (fun c_68 => ?_) (fun c_68 => ?_)
            · refine lv_iload_n hx hb d_BlockDeskModel_write_81 rfl (lv_at hl 0 rfl) ?_
              have hP9 := hP.sub (ws' := [(b0, .inr (1, [.int (nI N), .int up, .int (ch - n), .int (wr + n), .int (nI bg), .int (nI en), .ref b1, .int (nI hs), .ref b2, .int (nI ss), .ref b3, .ref b4, .int (nI rc)]))]) [0] rfl
              have hD9 := hD.sub (ws' := [(b0, .inr (1, [.int (nI N), .int up, .int (ch - n), .int (wr + n), .int (nI bg), .int (nI en), .ref b1, .int (nI hs), .ref b2, .int (nI ss), .ref b3, .ref b4, .int (nI rc)]))]) [0] (by decide) rfl
              have hK9 := hK.sub (tys' := []) [] rfl
              exact W.zret (v := nI 1) hx hb hr zq_nb1 (fun t ht hW => ⟨⟨nI 1, (up, hs, ch - n, wr + n), rfl, (zq_wb_c (fun h9 => c_4 (by rw [h9, xq_m1T]; omega)) (fun h9 => c_12 (xq_lt.mp h9))).symm, by rw [ht]; exact hP9, va_K.moved hW.alike hK9, hD9⟩, hS.F ht⟩) hS.2.2 d_BlockDeskModel_write_82
            · exact absurd c_68 (xq_n0 (by omega) (by omega))
set_option maxHeartbeats 4000000 in
set_option maxRecDepth 100000 in
theorem c_BlockDeskModel_cut (l : Launch) (dC : Nat → ClassId) (dI : Nat → Nat → Nat) (sz : Nat) (b0 : Nat) (b1 : Nat) (b2 : Nat) (b3 : Nat) (b4 : Nat) (N : Nat) (rc : Nat) (bg : Nat) (en : Nat) (ss : Nat) (hs : Nat) (up : Int32) (ch : Int32) (wr : Int32)  : Met l y_BlockDeskModel_cut w_BlockDeskModel_cut ({ frames := 0, cells := 0, slots := 0, locals := 0 }) (va_Pc [.ref b0] (fun U => U.heap.size = sz ∧ va_P (dC, dI) classes [(b0, .inr (1, [.int (nI N), .int up, .int ch, .int wr, .int (nI bg), .int (nI en), .ref b1, .int (nI hs), .ref b2, .int (nI ss), .ref b3, .ref b4, .int (nI rc)]))] U.heap ∧ va_K (dC, dI) classes [] U ∧ va_D (fun _ => True) [(b0, .inr (1, [.int (nI N), .int up, .int ch, .int wr, .int (nI bg), .int (nI en), .ref b1, .int (nI hs), .ref b2, .int (nI ss), .ref b3, .ref b4, .int (nI rc)]))])) (va_Qi (fun (r : Int32) (u : Int32 × Nat × Int32 × Int32) => (up = 0 ∧ r = nI 0 ∧ u = (up, hs, ch, wr)) ∨ (¬ up = 0 ∧ r = nI 1 ∧ u = (nI 0, 0, -1, wr))) (fun (u : Int32 × Nat × Int32 × Int32) (t : State) => match u with | (up', hs', ch', wr') => va_P (dC, dI) classes [(b0, .inr (1, [.int (nI N), .int up', .int ch', .int wr', .int (nI bg), .int (nI en), .ref b1, .int (nI hs'), .ref b2, .int (nI ss), .ref b3, .ref b4, .int (nI rc)]))] t.heap ∧ va_K (dC, dI) classes [] t ∧ va_D (va_A [(b0, .inr (1, [.int (nI N), .int up, .int ch, .int wr, .int (nI bg), .int (nI en), .ref b1, .int (nI hs), .ref b2, .int (nI ss), .ref b3, .ref b4, .int (nI rc)]))] sz) [(b0, .inr (1, [.int (nI N), .int up', .int ch', .int wr', .int (nI bg), .int (nI en), .ref b1, .int (nI hs'), .ref b2, .int (nI ss), .ref b3, .ref b4, .int (nI rc)]))]) (va_A [(b0, .inr (1, [.int (nI N), .int up, .int ch, .int wr, .int (nI bg), .int (nI en), .ref b1, .int (nI hs), .ref b2, .int (nI ss), .ref b3, .ref b4, .int (nI rc)]))] sz)) 0 0 (va_A [(b0, .inr (1, [.int (nI N), .int up, .int ch, .int wr, .int (nI bg), .int (nI en), .ref b1, .int (nI hs), .ref b2, .int (nI ss), .ref b3, .ref b4, .int (nI rc)]))] sz) := by
  refine Met.ofW (cc := b_BlockDeskModel_cut) (maxL := 1) (ret := (some .boolean)) (by decide) rfl ?_
  intro p e s m args below meth c s₁ B hml hv
  obtain ⟨rfl, hsz, hP, hK, hD0⟩ := hv
  have hx := B.exec
  have hb := B.bytes
  have hr := B.returns
  have hts := atoms_spec (ws := w_BlockDeskModel_cut) B.pre
  have hown : s.vm.findClass R_BlockDeskModel = some m.cls := findClass_of_methodNamed B.named
  have hlocks := B.notSynchronized
  subst hsz
  have hD := hD0.self (sz := s.heap.size)
  generalize hAe : va_A [(b0, .inr (1, [.int (nI N), .int up, .int ch, .int wr, .int (nI bg), .int (nI en), .ref b1, .int (nI hs), .ref b2, .int (nI ss), .ref b3, .ref b4, .int (nI rc)]))] s.heap.size = A at hD ⊢
  have hA : ∀ q : Nat, s.heap.size ≤ q → A q := fun q h => by rw [← hAe]; exact Or.inr h
  have hS : va_S A s.heap s.heap [] := va_S.rf
  have hP : va_P (dC, dI) classes [(b0, .inr (1, [.int (nI N), .int up, .int ch, .int wr, .int (nI bg), .int (nI en), .ref b1, .int (nI hs), .ref b2, .int (nI ss), .ref b3, .ref b4, .int (nI rc)]))] s.heap := hP
  have hin1 : ∀ w ∈ u_ws R_BlockDeskModel F_BlockDeskModel 13, w ∈ w_BlockDeskModel_cut := by decide +kernel
  have hl := lv_entry ([.ref b0]) (n := 1) (Nat.le_of_ble_eq_true rfl)
  rw [lg_entry_eq]
  generalize (lg_sl ([.ref b0]) ++ List.replicate (1 - (lg_sl ([.ref b0])).length) Slot.unset).toArray = ls at hl ⊢
  have hl : lv_has ls 1 [(0, .ref b0)] := hl
  refine lv_aload_n hx hb d_BlockDeskModel_cut_0 rfl (lv_at hl 0 rfl) ?_
  refine va_get (D := (dC, dI)) (ci := 1) (v := .int up) (C := R_BlockDeskModel) (T := F_BlockDeskModel) (N := 13) hx hb hts hin1 hown hK hP 0 rfl rfl 1 (by decide) (hts (.fieldLink R_BlockDeskModel 7 "BlockDeskModel" "up" "Z") (by decide +kernel)) (fun _ h9 => h9) rfl d_BlockDeskModel_cut_1 ?_
  refine lv_if_ne (tgt := 9) hx hb d_BlockDeskModel_cut_4 (by decide) (fun c_4 => ?_) (fun c_4 => ?_)
  · refine lv_aload_n hx hb d_BlockDeskModel_cut_9 rfl (lv_at hl 0 rfl) ?_
    refine lv_iconst (v := nI 0) hx hb d_BlockDeskModel_cut_10 (by decide +kernel) ?_
    refine va_put (D := (dC, dI)) (ci := 1) (v := .int (nI 0)) (ty := .boolean) (C := R_BlockDeskModel) (T := F_BlockDeskModel) (N := 13) hx hb hts hin1 t_BlockDeskModel t_BlockDeskModel_ok n_BlockDeskModel hown hK hP hD hS 0 rfl rfl 1 (by decide) (hts (.fieldLink R_BlockDeskModel 7 "BlockDeskModel" "up" "Z") (by decide +kernel)) (fun _ h9 => h9) rfl (by decide +kernel) zq_nb0 zq_fb0 (Nat.le_of_ble_eq_true rfl) d_BlockDeskModel_cut_11 (fun H locs hP hD hS => ?_)
    have hP : va_P (dC, dI) classes [(b0, .inr (1, [.int (nI N), .int (nI 0), .int ch, .int wr, .int (nI bg), .int (nI en), .ref b1, .int (nI hs), .ref b2, .int (nI ss), .ref b3, .ref b4, .int (nI rc)]))] H := hP
    have hD : va_D A [(b0, .inr (1, [.int (nI N), .int (nI 0), .int ch, .int wr, .int (nI bg), .int (nI en), .ref b1, .int (nI hs), .ref b2, .int (nI ss), .ref b3, .ref b4, .int (nI rc)]))] := hD
    refine lv_aload_n hx hb d_BlockDeskModel_cut_14 rfl (lv_at hl 0 rfl) ?_
    refine lv_iconst (v := (-1)) hx hb d_BlockDeskModel_cut_15 (by decide +kernel) ?_
    refine va_put (D := (dC, dI)) (ci := 1) (v := .int (-1)) (ty := .int) (C := R_BlockDeskModel) (T := F_BlockDeskModel) (N := 13) hx hb hts hin1 t_BlockDeskModel t_BlockDeskModel_ok n_BlockDeskModel hown hK hP hD hS 0 rfl rfl 2 (by decide) (hts (.fieldLink R_BlockDeskModel 13 "BlockDeskModel" "charge" "I") (by decide +kernel)) (fun _ h9 => h9) rfl (by decide +kernel) rfl rfl (Nat.le_of_ble_eq_true rfl) d_BlockDeskModel_cut_16 (fun H locs hP hD hS => ?_)
    have hP : va_P (dC, dI) classes [(b0, .inr (1, [.int (nI N), .int (nI 0), .int (-1), .int wr, .int (nI bg), .int (nI en), .ref b1, .int (nI hs), .ref b2, .int (nI ss), .ref b3, .ref b4, .int (nI rc)]))] H := hP
    have hD : va_D A [(b0, .inr (1, [.int (nI N), .int (nI 0), .int (-1), .int wr, .int (nI bg), .int (nI en), .ref b1, .int (nI hs), .ref b2, .int (nI ss), .ref b3, .ref b4, .int (nI rc)]))] := hD
    refine lv_aload_n hx hb d_BlockDeskModel_cut_19 rfl (lv_at hl 0 rfl) ?_
    refine lv_iconst (v := nI 0) hx hb d_BlockDeskModel_cut_20 (by decide +kernel) ?_
    refine va_put (D := (dC, dI)) (ci := 1) (v := .int (nI 0)) (ty := .int) (C := R_BlockDeskModel) (T := F_BlockDeskModel) (N := 13) hx hb hts hin1 t_BlockDeskModel t_BlockDeskModel_ok n_BlockDeskModel hown hK hP hD hS 0 rfl rfl 7 (by decide) (hts (.fieldLink R_BlockDeskModel 33 "BlockDeskModel" "inHand" "I") (by decide +kernel)) (fun _ h9 => h9) rfl (by decide +kernel) rfl rfl (Nat.le_of_ble_eq_true rfl) d_BlockDeskModel_cut_21 (fun H locs hP hD hS => ?_)
    have hP : va_P (dC, dI) classes [(b0, .inr (1, [.int (nI N), .int (nI 0), .int (-1), .int wr, .int (nI bg), .int (nI en), .ref b1, .int (nI 0), .ref b2, .int (nI ss), .ref b3, .ref b4, .int (nI rc)]))] H := hP
    have hD : va_D A [(b0, .inr (1, [.int (nI N), .int (nI 0), .int (-1), .int wr, .int (nI bg), .int (nI en), .ref b1, .int (nI 0), .ref b2, .int (nI ss), .ref b3, .ref b4, .int (nI rc)]))] := hD
    refine lv_iconst (v := nI 1) hx hb d_BlockDeskModel_cut_24 (by decide +kernel) ?_
    have hP9 := hP.sub (ws' := [(b0, .inr (1, [.int (nI N), .int (nI 0), .int (-1), .int wr, .int (nI bg), .int (nI en), .ref b1, .int (nI 0), .ref b2, .int (nI ss), .ref b3, .ref b4, .int (nI rc)]))]) [0] rfl
    have hD9 := hD.sub (ws' := [(b0, .inr (1, [.int (nI N), .int (nI 0), .int (-1), .int wr, .int (nI bg), .int (nI en), .ref b1, .int (nI 0), .ref b2, .int (nI ss), .ref b3, .ref b4, .int (nI rc)]))]) [0] (by decide) rfl
    have hK9 := hK.sub (tys' := []) [] rfl
    exact W.zret (v := nI 1) hx hb hr zq_nb1 (fun t ht hW => ⟨⟨nI 1, (nI 0, 0, (-1), wr), rfl, Or.inr ⟨c_4, rfl, rfl⟩, by rw [ht]; exact hP9, va_K.moved hW.alike hK9, hD9⟩, hS.F ht⟩) hS.2.2 d_BlockDeskModel_cut_25
  · refine lv_iconst (v := nI 0) hx hb d_BlockDeskModel_cut_7 (by decide +kernel) ?_
    have hP9 := hP.sub (ws' := [(b0, .inr (1, [.int (nI N), .int up, .int ch, .int wr, .int (nI bg), .int (nI en), .ref b1, .int (nI hs), .ref b2, .int (nI ss), .ref b3, .ref b4, .int (nI rc)]))]) [0] rfl
    have hD9 := hD.sub (ws' := [(b0, .inr (1, [.int (nI N), .int up, .int ch, .int wr, .int (nI bg), .int (nI en), .ref b1, .int (nI hs), .ref b2, .int (nI ss), .ref b3, .ref b4, .int (nI rc)]))]) [0] (by decide) rfl
    have hK9 := hK.sub (tys' := []) [] rfl
    exact W.zret (v := nI 0) hx hb hr zq_nb0 (fun t ht hW => ⟨⟨nI 0, (up, hs, ch, wr), rfl, Or.inl ⟨c_4, rfl, rfl⟩, by rw [ht]; exact hP9, va_K.moved hW.alike hK9, hD9⟩, hS.F ht⟩) hS.2.2 d_BlockDeskModel_cut_8
set_option maxHeartbeats 4000000 in
set_option maxRecDepth 100000 in
theorem c_BlockDeskModel_start (l : Launch) (dC : Nat → ClassId) (dI : Nat → Nat → Nat) (sz : Nat) (b0 : Nat) (b1 : Nat) (b2 : Nat) (b3 : Nat) (b4 : Nat) (N : Nat) (rc : Nat) (bg : Nat) (en : Nat) (ss : Nat) (hs : Nat) (up : Int32) (ch : Int32) (wr : Int32) (hch : zq_chok ch) : Met l y_BlockDeskModel_start w_BlockDeskModel_start ({ frames := 1, cells := 0, slots := 0, locals := 22 }) (va_Pc [.ref b0] (fun U => U.heap.size = sz ∧ va_P (dC, dI) classes [(b0, .inr (1, [.int (nI N), .int up, .int ch, .int wr, .int (nI bg), .int (nI en), .ref b1, .int (nI hs), .ref b2, .int (nI ss), .ref b3, .ref b4, .int (nI rc)]))] U.heap ∧ va_K (dC, dI) classes [] U ∧ va_D (fun _ => True) [(b0, .inr (1, [.int (nI N), .int up, .int ch, .int wr, .int (nI bg), .int (nI en), .ref b1, .int (nI hs), .ref b2, .int (nI ss), .ref b3, .ref b4, .int (nI rc)]))])) (va_Qi (fun (r : Int32) (u : Int32 × Nat × Int32 × Int32) => (¬ up = 0 ∧ r = nI 0 ∧ u = (up, hs, ch, wr)) ∨ (up = 0 ∧ r = nI 2 ∧ (nI 0, u) = zq_wb up hs ch wr (nI 1)) ∨ (up = 0 ∧ r = nI 1 ∧ ∃ up1 : Int32, (nI 1, up1, u.2) = zq_wb up hs ch wr (nI 1) ∧ u.1 = nI 1)) (fun (u : Int32 × Nat × Int32 × Int32) (t : State) => match u with | (up', hs', ch', wr') => va_P (dC, dI) classes [(b0, .inr (1, [.int (nI N), .int up', .int ch', .int wr', .int (nI bg), .int (nI en), .ref b1, .int (nI hs'), .ref b2, .int (nI ss), .ref b3, .ref b4, .int (nI rc)]))] t.heap ∧ va_K (dC, dI) classes [] t ∧ va_D (va_A [(b0, .inr (1, [.int (nI N), .int up, .int ch, .int wr, .int (nI bg), .int (nI en), .ref b1, .int (nI hs), .ref b2, .int (nI ss), .ref b3, .ref b4, .int (nI rc)]))] sz) [(b0, .inr (1, [.int (nI N), .int up', .int ch', .int wr', .int (nI bg), .int (nI en), .ref b1, .int (nI hs'), .ref b2, .int (nI ss), .ref b3, .ref b4, .int (nI rc)]))]) (va_A [(b0, .inr (1, [.int (nI N), .int up, .int ch, .int wr, .int (nI bg), .int (nI en), .ref b1, .int (nI hs), .ref b2, .int (nI ss), .ref b3, .ref b4, .int (nI rc)]))] sz)) 0 0 (va_A [(b0, .inr (1, [.int (nI N), .int up, .int ch, .int wr, .int (nI bg), .int (nI en), .ref b1, .int (nI hs), .ref b2, .int (nI ss), .ref b3, .ref b4, .int (nI rc)]))] sz) := by
  refine Met.ofW (cc := b_BlockDeskModel_start) (maxL := 1) (ret := (some .int)) (by decide) rfl ?_
  intro p e s m args below meth c s₁ B hml hv
  obtain ⟨rfl, hsz, hP, hK, hD0⟩ := hv
  have hx := B.exec
  have hb := B.bytes
  have hr := B.returns
  have hts := atoms_spec (ws := w_BlockDeskModel_start) B.pre
  have hown : s.vm.findClass R_BlockDeskModel = some m.cls := findClass_of_methodNamed B.named
  have hlocks := B.notSynchronized
  subst hsz
  have hD := hD0.self (sz := s.heap.size)
  generalize hAe : va_A [(b0, .inr (1, [.int (nI N), .int up, .int ch, .int wr, .int (nI bg), .int (nI en), .ref b1, .int (nI hs), .ref b2, .int (nI ss), .ref b3, .ref b4, .int (nI rc)]))] s.heap.size = A at hD ⊢
  have hA : ∀ q : Nat, s.heap.size ≤ q → A q := fun q h => by rw [← hAe]; exact Or.inr h
  have hS : va_S A s.heap s.heap [] := va_S.rf
  have hP : va_P (dC, dI) classes [(b0, .inr (1, [.int (nI N), .int up, .int ch, .int wr, .int (nI bg), .int (nI en), .ref b1, .int (nI hs), .ref b2, .int (nI ss), .ref b3, .ref b4, .int (nI rc)]))] s.heap := hP
  have hin1 : ∀ w ∈ u_ws R_BlockDeskModel F_BlockDeskModel 13, w ∈ w_BlockDeskModel_start := by decide +kernel
  have hl := lv_entry ([.ref b0]) (n := 1) (Nat.le_of_ble_eq_true rfl)
  rw [lg_entry_eq]
  generalize (lg_sl ([.ref b0]) ++ List.replicate (1 - (lg_sl ([.ref b0])).length) Slot.unset).toArray = ls at hl ⊢
  have hl : lv_has ls 1 [(0, .ref b0)] := hl
  refine lv_aload_n hx hb d_BlockDeskModel_start_0 rfl (lv_at hl 0 rfl) ?_
  refine va_get (D := (dC, dI)) (ci := 1) (v := .int up) (C := R_BlockDeskModel) (T := F_BlockDeskModel) (N := 13) hx hb hts hin1 hown hK hP 0 rfl rfl 1 (by decide) (hts (.fieldLink R_BlockDeskModel 7 "BlockDeskModel" "up" "Z") (by decide +kernel)) (fun _ h9 => h9) rfl d_BlockDeskModel_start_1 ?_
  refine lv_if_eq (tgt := 9) hx hb d_BlockDeskModel_start_4 (by decide) (fun c_4 => ?_) (fun c_4 => ?_)
  · refine lv_aload_n hx hb d_BlockDeskModel_start_9 rfl (lv_at hl 0 rfl) ?_
    refine lv_iconst (v := nI 1) hx hb d_BlockDeskModel_start_10 (by decide +kernel) ?_
    have hPc := hP.sub (ws' := [(b0, .inr (1, [.int (nI N), .int up, .int ch, .int wr, .int (nI bg), .int (nI en), .ref b1, .int (nI hs), .ref b2, .int (nI ss), .ref b3, .ref b4, .int (nI rc)]))]) [0] rfl
    have hDc := hD.sub (ws' := [(b0, .inr (1, [.int (nI N), .int up, .int ch, .int wr, .int (nI bg), .int (nI en), .ref b1, .int (nI hs), .ref b2, .int (nI ss), .ref b3, .ref b4, .int (nI rc)]))]) [0] (by decide) rfl
    have hKc := hK.sub (tys' := []) [] rfl
    have hFc := va_free (wc := [(b0, .inr (1, [.int (nI N), .int up, .int ch, .int wr, .int (nI bg), .int (nI en), .ref b1, .int (nI hs), .ref b2, .int (nI ss), .ref b3, .ref b4, .int (nI rc)]))]) hD hS hA [0] rfl
    refine va_calli (va_runV (As := [.int (nI 1)]) (rest := []) ⟨hx, hb, hml, hown, hts⟩ (c_BlockDeskModel_write l dC dI s.heap.size b0 b1 b2 b3 b4 N rc bg en ss hs up ch wr (nI 1) hch) (cwV 1 hts g_BlockDeskModel_start_BlockDeskModel_write rfl rfl rfl (by decide +kernel) ⟨Nat.le_of_ble_eq_true rfl, Nat.le_of_ble_eq_true rfl⟩) ⟨fun a U g mk q => by obtain ⟨q0, q1, qP, qK, qD⟩ := q; exact ⟨q0, q1, qP, va_K.moved (u := U) (U := U.calling g mk a) (Vm.Alike.refl U.vm) qK, qD⟩, va_recv hKc hPc (ci := 1) (q0 := 0) rfl rfl, fun U hU hW => ⟨rfl, by rw [hU], by rw [hU]; exact hPc, va_K.moved hW.alike hKc, hDc.weaken (fun _ _ _ _ => trivial)⟩⟩ rfl rfl hl.1 rfl (lv_room (Nat.le_of_ble_eq_true rfl)) d_BlockDeskModel_start_11 ⟨(Nat.zero_le _), (Nat.zero_le _)⟩) hS (fun q _ h => hFc q h) hFc (fun r_11 u t H1 locs ht hvm hw hB hz1 hk1 hS => ?_)
    obtain ⟨up1, hs1, ch1, wr1⟩ := u
    obtain ⟨hP1, hK1, hD1⟩ := hB
    rw [ht] at hP1
    try dsimp only at hw
    obtain ⟨hP, hD⟩ := va_join (wr := []) (w1 := [(b0, .inr (1, [.int (nI N), .int up1, .int ch1, .int wr1, .int (nI bg), .int (nI en), .ref b1, .int (nI hs1), .ref b2, .int (nI ss), .ref b3, .ref b4, .int (nI rc)]))]) hP hD [0] [] rfl rfl (by decide) (by decide) hk1 hFc hP1 hD1
    generalize H1 = H at hP hS ⊢
    have hP : va_P (dC, dI) classes [(b0, .inr (1, [.int (nI N), .int up1, .int ch1, .int wr1, .int (nI bg), .int (nI en), .ref b1, .int (nI hs1), .ref b2, .int (nI ss), .ref b3, .ref b4, .int (nI rc)]))] H := hP
    have hD : va_D A [(b0, .inr (1, [.int (nI N), .int up1, .int ch1, .int wr1, .int (nI bg), .int (nI en), .ref b1, .int (nI hs1), .ref b2, .int (nI ss), .ref b3, .ref b4, .int (nI rc)]))] := hD
    rcases zq_wb_split hw with ⟨rfl, hw⟩ | ⟨rfl, hw⟩
    · have h8 : True := trivial
      refine lv_if_ne (tgt := 19) hx hb d_BlockDeskModel_start_14 (by decide) (fun c_14 => ?_) (fun c_14 => ?_)
      · exact absurd rfl c_14
      · refine lv_iconst (v := nI 2) hx hb d_BlockDeskModel_start_17 (by decide +kernel) ?_
        have hP9 := hP.sub (ws' := [(b0, .inr (1, [.int (nI N), .int up1, .int ch1, .int wr1, .int (nI bg), .int (nI en), .ref b1, .int (nI hs1), .ref b2, .int (nI ss), .ref b3, .ref b4, .int (nI rc)]))]) [0] rfl
        have hD9 := hD.sub (ws' := [(b0, .inr (1, [.int (nI N), .int up1, .int ch1, .int wr1, .int (nI bg), .int (nI en), .ref b1, .int (nI hs1), .ref b2, .int (nI ss), .ref b3, .ref b4, .int (nI rc)]))]) [0] (by decide) rfl
        have hK9 := hK.sub (tys' := []) [] rfl
        exact W.iret (v := nI 2) hx hb hr (fun t ht hW => ⟨⟨nI 2, (up1, hs1, ch1, wr1), rfl, Or.inr (Or.inl ⟨c_4, rfl, hw⟩), by rw [ht]; exact hP9, va_K.moved hW.alike hK9, hD9⟩, hS.F ht⟩) hS.2.2 d_BlockDeskModel_start_18
    · have h8 : True := trivial
      refine lv_if_ne (tgt := 19) hx hb d_BlockDeskModel_start_14 (by decide) (fun c_14 => ?_) (fun c_14 => ?_)
      · refine lv_aload_n hx hb d_BlockDeskModel_start_19 rfl (lv_at hl 0 rfl) ?_
        refine lv_iconst (v := nI 1) hx hb d_BlockDeskModel_start_20 (by decide +kernel) ?_
        refine va_put (D := (dC, dI)) (ci := 1) (v := .int (nI 1)) (ty := .boolean) (C := R_BlockDeskModel) (T := F_BlockDeskModel) (N := 13) hx hb hts hin1 t_BlockDeskModel t_BlockDeskModel_ok n_BlockDeskModel hown hK hP hD hS 0 rfl rfl 1 (by decide) (hts (.fieldLink R_BlockDeskModel 7 "BlockDeskModel" "up" "Z") (by decide +kernel)) (fun _ h9 => h9) rfl (by decide +kernel) zq_nb1 zq_fb1 (Nat.le_of_ble_eq_true rfl) d_BlockDeskModel_start_21 (fun H locs hP hD hS => ?_)
        have hP : va_P (dC, dI) classes [(b0, .inr (1, [.int (nI N), .int (nI 1), .int ch1, .int wr1, .int (nI bg), .int (nI en), .ref b1, .int (nI hs1), .ref b2, .int (nI ss), .ref b3, .ref b4, .int (nI rc)]))] H := hP
        have hD : va_D A [(b0, .inr (1, [.int (nI N), .int (nI 1), .int ch1, .int wr1, .int (nI bg), .int (nI en), .ref b1, .int (nI hs1), .ref b2, .int (nI ss), .ref b3, .ref b4, .int (nI rc)]))] := hD
        refine lv_iconst (v := nI 1) hx hb d_BlockDeskModel_start_24 (by decide +kernel) ?_
        have hP9 := hP.sub (ws' := [(b0, .inr (1, [.int (nI N), .int (nI 1), .int ch1, .int wr1, .int (nI bg), .int (nI en), .ref b1, .int (nI hs1), .ref b2, .int (nI ss), .ref b3, .ref b4, .int (nI rc)]))]) [0] rfl
        have hD9 := hD.sub (ws' := [(b0, .inr (1, [.int (nI N), .int (nI 1), .int ch1, .int wr1, .int (nI bg), .int (nI en), .ref b1, .int (nI hs1), .ref b2, .int (nI ss), .ref b3, .ref b4, .int (nI rc)]))]) [0] (by decide) rfl
        have hK9 := hK.sub (tys' := []) [] rfl
        exact W.iret (v := nI 1) hx hb hr (fun t ht hW => ⟨⟨nI 1, (nI 1, hs1, ch1, wr1), rfl, Or.inr (Or.inr ⟨c_4, rfl, up1, hw, rfl⟩), by rw [ht]; exact hP9, va_K.moved hW.alike hK9, hD9⟩, hS.F ht⟩) hS.2.2 d_BlockDeskModel_start_25
      · exact absurd c_14 (xq_n0 (by omega) (by omega))
  · refine lv_iconst (v := nI 0) hx hb d_BlockDeskModel_start_7 (by decide +kernel) ?_
    have hP9 := hP.sub (ws' := [(b0, .inr (1, [.int (nI N), .int up, .int ch, .int wr, .int (nI bg), .int (nI en), .ref b1, .int (nI hs), .ref b2, .int (nI ss), .ref b3, .ref b4, .int (nI rc)]))]) [0] rfl
    have hD9 := hD.sub (ws' := [(b0, .inr (1, [.int (nI N), .int up, .int ch, .int wr, .int (nI bg), .int (nI en), .ref b1, .int (nI hs), .ref b2, .int (nI ss), .ref b3, .ref b4, .int (nI rc)]))]) [0] (by decide) rfl
    have hK9 := hK.sub (tys' := []) [] rfl
    exact W.iret (v := nI 0) hx hb hr (fun t ht hW => ⟨⟨nI 0, (up, hs, ch, wr), rfl, Or.inl ⟨c_4, rfl, rfl⟩, by rw [ht]; exact hP9, va_K.moved hW.alike hK9, hD9⟩, hS.F ht⟩) hS.2.2 d_BlockDeskModel_start_8
set_option maxHeartbeats 4000000 in
set_option maxRecDepth 100000 in
theorem c_BlockDeskModel_charge (l : Launch) (dC : Nat → ClassId) (dI : Nat → Nat → Nat) (sz : Nat) (b0 : Nat) (b1 : Nat) (b2 : Nat) (b3 : Nat) (b4 : Nat) (N : Nat) (rc : Nat) (bg : Nat) (en : Nat) (ss : Nat) (hs : Nat) (up : Int32) (ch : Int32) (wr : Int32) (n : Int32)  : Met l y_BlockDeskModel_charge w_BlockDeskModel_charge ({ frames := 0, cells := 0, slots := 0, locals := 0 }) (va_Pc [.ref b0, .int n] (fun U => U.heap.size = sz ∧ va_P (dC, dI) classes [(b0, .inr (1, [.int (nI N), .int up, .int ch, .int wr, .int (nI bg), .int (nI en), .ref b1, .int (nI hs), .ref b2, .int (nI ss), .ref b3, .ref b4, .int (nI rc)]))] U.heap ∧ va_K (dC, dI) classes [] U ∧ va_D (fun _ => True) [(b0, .inr (1, [.int (nI N), .int up, .int ch, .int wr, .int (nI bg), .int (nI en), .ref b1, .int (nI hs), .ref b2, .int (nI ss), .ref b3, .ref b4, .int (nI rc)]))])) (va_Qi (fun (r : Int32) (u : Int32) => (0 ≤ n.toInt ∧ n.toInt ≤ 999 ∧ r = nI 1 ∧ u = n) ∨ (¬ (0 ≤ n.toInt ∧ n.toInt ≤ 999) ∧ r = nI 0 ∧ u = ch)) (fun (u : Int32) (t : State) => match u with | ch' => va_P (dC, dI) classes [(b0, .inr (1, [.int (nI N), .int up, .int ch', .int wr, .int (nI bg), .int (nI en), .ref b1, .int (nI hs), .ref b2, .int (nI ss), .ref b3, .ref b4, .int (nI rc)]))] t.heap ∧ va_K (dC, dI) classes [] t ∧ va_D (va_A [(b0, .inr (1, [.int (nI N), .int up, .int ch, .int wr, .int (nI bg), .int (nI en), .ref b1, .int (nI hs), .ref b2, .int (nI ss), .ref b3, .ref b4, .int (nI rc)]))] sz) [(b0, .inr (1, [.int (nI N), .int up, .int ch', .int wr, .int (nI bg), .int (nI en), .ref b1, .int (nI hs), .ref b2, .int (nI ss), .ref b3, .ref b4, .int (nI rc)]))]) (va_A [(b0, .inr (1, [.int (nI N), .int up, .int ch, .int wr, .int (nI bg), .int (nI en), .ref b1, .int (nI hs), .ref b2, .int (nI ss), .ref b3, .ref b4, .int (nI rc)]))] sz)) 0 0 (va_A [(b0, .inr (1, [.int (nI N), .int up, .int ch, .int wr, .int (nI bg), .int (nI en), .ref b1, .int (nI hs), .ref b2, .int (nI ss), .ref b3, .ref b4, .int (nI rc)]))] sz) := by
  refine Met.ofW (cc := b_BlockDeskModel_charge) (maxL := 2) (ret := (some .boolean)) (by decide) rfl ?_
  intro p e s m args below meth c s₁ B hml hv
  obtain ⟨rfl, hsz, hP, hK, hD0⟩ := hv
  have hx := B.exec
  have hb := B.bytes
  have hr := B.returns
  have hts := atoms_spec (ws := w_BlockDeskModel_charge) B.pre
  have hown : s.vm.findClass R_BlockDeskModel = some m.cls := findClass_of_methodNamed B.named
  have hlocks := B.notSynchronized
  subst hsz
  have hD := hD0.self (sz := s.heap.size)
  generalize hAe : va_A [(b0, .inr (1, [.int (nI N), .int up, .int ch, .int wr, .int (nI bg), .int (nI en), .ref b1, .int (nI hs), .ref b2, .int (nI ss), .ref b3, .ref b4, .int (nI rc)]))] s.heap.size = A at hD ⊢
  have hA : ∀ q : Nat, s.heap.size ≤ q → A q := fun q h => by rw [← hAe]; exact Or.inr h
  have hS : va_S A s.heap s.heap [] := va_S.rf
  have hP : va_P (dC, dI) classes [(b0, .inr (1, [.int (nI N), .int up, .int ch, .int wr, .int (nI bg), .int (nI en), .ref b1, .int (nI hs), .ref b2, .int (nI ss), .ref b3, .ref b4, .int (nI rc)]))] s.heap := hP
  have hin1 : ∀ w ∈ u_ws R_BlockDeskModel F_BlockDeskModel 13, w ∈ w_BlockDeskModel_charge := by decide +kernel
  have hl := lv_entry ([.ref b0, .int n]) (n := 2) (Nat.le_of_ble_eq_true rfl)
  rw [lg_entry_eq]
  generalize (lg_sl ([.ref b0, .int n]) ++ List.replicate (2 - (lg_sl ([.ref b0, .int n])).length) Slot.unset).toArray = ls at hl ⊢
  have hl : lv_has ls 2 [(0, .ref b0), (1, .int n)] := hl
  refine lv_iload_n hx hb d_BlockDeskModel_charge_0 rfl (lv_at hl 1 rfl) ?_
  refine lv_if_lt (tgt := 11) hx hb d_BlockDeskModel_charge_1 (by decide) (fun c_1 => ?_) (fun c_1 => ?_)
  · have c_1 : n.toInt < 0 := xq_lt_0r.mp c_1
    refine lv_iconst (v := nI 0) hx hb d_BlockDeskModel_charge_11 (by decide +kernel) ?_
    have hP9 := hP.sub (ws' := [(b0, .inr (1, [.int (nI N), .int up, .int ch, .int wr, .int (nI bg), .int (nI en), .ref b1, .int (nI hs), .ref b2, .int (nI ss), .ref b3, .ref b4, .int (nI rc)]))]) [0] rfl
    have hD9 := hD.sub (ws' := [(b0, .inr (1, [.int (nI N), .int up, .int ch, .int wr, .int (nI bg), .int (nI en), .ref b1, .int (nI hs), .ref b2, .int (nI ss), .ref b3, .ref b4, .int (nI rc)]))]) [0] (by decide) rfl
    have hK9 := hK.sub (tys' := []) [] rfl
    exact W.zret (v := nI 0) hx hb hr zq_nb0 (fun t ht hW => ⟨⟨nI 0, ch, rfl, Or.inr ⟨by omega, rfl, rfl⟩, by rw [ht]; exact hP9, va_K.moved hW.alike hK9, hD9⟩, hS.F ht⟩) hS.2.2 d_BlockDeskModel_charge_12
  · have c_1 : ¬ (n.toInt < 0) := fun h9 => c_1 (xq_lt_0r.mpr h9)
    refine lv_iload_n hx hb d_BlockDeskModel_charge_4 rfl (lv_at hl 1 rfl) ?_
    refine lv_sipush (v := nI 999) hx hb d_BlockDeskModel_charge_5 (by decide +kernel) ?_
    refine lv_icmp_le (tgt := 13) hx hb d_BlockDeskModel_charge_8 (by decide) (fun c_8 => ?_) (fun c_8 => ?_)
    · have c_8 : n.toInt ≤ ((999 : Nat) : Int) := (xq_le_r (by omega)).mp c_8
      refine lv_aload_n hx hb d_BlockDeskModel_charge_13 rfl (lv_at hl 0 rfl) ?_
      refine lv_iload_n hx hb d_BlockDeskModel_charge_14 rfl (lv_at hl 1 rfl) ?_
      refine va_put (D := (dC, dI)) (ci := 1) (v := .int n) (ty := .int) (C := R_BlockDeskModel) (T := F_BlockDeskModel) (N := 13) hx hb hts hin1 t_BlockDeskModel t_BlockDeskModel_ok n_BlockDeskModel hown hK hP hD hS 0 rfl rfl 2 (by decide) (hts (.fieldLink R_BlockDeskModel 13 "BlockDeskModel" "charge" "I") (by decide +kernel)) (fun _ h9 => h9) rfl (by decide +kernel) rfl rfl (Nat.le_of_ble_eq_true rfl) d_BlockDeskModel_charge_15 (fun H locs hP hD hS => ?_)
      have hP : va_P (dC, dI) classes [(b0, .inr (1, [.int (nI N), .int up, .int n, .int wr, .int (nI bg), .int (nI en), .ref b1, .int (nI hs), .ref b2, .int (nI ss), .ref b3, .ref b4, .int (nI rc)]))] H := hP
      have hD : va_D A [(b0, .inr (1, [.int (nI N), .int up, .int n, .int wr, .int (nI bg), .int (nI en), .ref b1, .int (nI hs), .ref b2, .int (nI ss), .ref b3, .ref b4, .int (nI rc)]))] := hD
      refine lv_iconst (v := nI 1) hx hb d_BlockDeskModel_charge_18 (by decide +kernel) ?_
      have hP9 := hP.sub (ws' := [(b0, .inr (1, [.int (nI N), .int up, .int n, .int wr, .int (nI bg), .int (nI en), .ref b1, .int (nI hs), .ref b2, .int (nI ss), .ref b3, .ref b4, .int (nI rc)]))]) [0] rfl
      have hD9 := hD.sub (ws' := [(b0, .inr (1, [.int (nI N), .int up, .int n, .int wr, .int (nI bg), .int (nI en), .ref b1, .int (nI hs), .ref b2, .int (nI ss), .ref b3, .ref b4, .int (nI rc)]))]) [0] (by decide) rfl
      have hK9 := hK.sub (tys' := []) [] rfl
      exact W.zret (v := nI 1) hx hb hr zq_nb1 (fun t ht hW => ⟨⟨nI 1, n, rfl, Or.inl ⟨by omega, by omega, rfl, rfl⟩, by rw [ht]; exact hP9, va_K.moved hW.alike hK9, hD9⟩, hS.F ht⟩) hS.2.2 d_BlockDeskModel_charge_19
    · have c_8 : ¬ (n.toInt ≤ ((999 : Nat) : Int)) := fun h9 => c_8 ((xq_le_r (by omega)).mpr h9)
      refine lv_iconst (v := nI 0) hx hb d_BlockDeskModel_charge_11 (by decide +kernel) ?_
      have hP9 := hP.sub (ws' := [(b0, .inr (1, [.int (nI N), .int up, .int ch, .int wr, .int (nI bg), .int (nI en), .ref b1, .int (nI hs), .ref b2, .int (nI ss), .ref b3, .ref b4, .int (nI rc)]))]) [0] rfl
      have hD9 := hD.sub (ws' := [(b0, .inr (1, [.int (nI N), .int up, .int ch, .int wr, .int (nI bg), .int (nI en), .ref b1, .int (nI hs), .ref b2, .int (nI ss), .ref b3, .ref b4, .int (nI rc)]))]) [0] (by decide) rfl
      have hK9 := hK.sub (tys' := []) [] rfl
      exact W.zret (v := nI 0) hx hb hr zq_nb0 (fun t ht hW => ⟨⟨nI 0, ch, rfl, Or.inr ⟨by omega, rfl, rfl⟩, by rw [ht]; exact hP9, va_K.moved hW.alike hK9, hD9⟩, hS.F ht⟩) hS.2.2 d_BlockDeskModel_charge_12
set_option maxHeartbeats 4000000 in
set_option maxRecDepth 100000 in
theorem c_BlockDeskModel_size (l : Launch) (dC : Nat → ClassId) (dI : Nat → Nat → Nat) (sz : Nat) (b0 : Nat) (b1 : Nat) (b2 : Nat) (b3 : Nat) (b4 : Nat) (N : Nat) (rc : Nat) (bg : Nat) (en : Nat) (ss : Nat) (hs : Nat) (up : Int32) (ch : Int32) (wr : Int32) (o4 : ClassId) (g4 : Nat → Int32) (T : Nat → Nat) (k : Int32) (hrc : rc ≤ 4000) (hT : ∀ z, z ≤ rc → g4 z = nI (T z - 4 * z)) (hM : ∀ z, z < rc → T z + 4 ≤ T (z + 1)) (h4 : ∀ z, z ≤ rc → 4 * z ≤ T z) : Met l y_BlockDeskModel_size w_BlockDeskModel_size ({ frames := 0, cells := 0, slots := 0, locals := 0 }) (va_Pc [.ref b0, .int k] (fun U => U.heap.size = sz ∧ va_P (dC, dI) classes [(b0, .inr (1, [.int (nI N), .int up, .int ch, .int wr, .int (nI bg), .int (nI en), .ref b1, .int (nI hs), .ref b2, .int (nI ss), .ref b3, .ref b4, .int (nI rc)])), (b4, .inl (o4, 4001, .inl g4))] U.heap ∧ va_K (dC, dI) classes [(o4, .int)] U ∧ va_D (fun _ => True) [(b0, .inr (1, [.int (nI N), .int up, .int ch, .int wr, .int (nI bg), .int (nI en), .ref b1, .int (nI hs), .ref b2, .int (nI ss), .ref b3, .ref b4, .int (nI rc)])), (b4, .inl (o4, 4001, .inl g4))])) (va_Qi (fun (r : Int32) (_ : Unit) => r = zq_szS up rc ss T k) (fun (_ : Unit) (t : State) => va_P (dC, dI) classes [(b0, .inr (1, [.int (nI N), .int up, .int ch, .int wr, .int (nI bg), .int (nI en), .ref b1, .int (nI hs), .ref b2, .int (nI ss), .ref b3, .ref b4, .int (nI rc)])), (b4, .inl (o4, 4001, .inl g4))] t.heap ∧ va_K (dC, dI) classes [(o4, .int)] t ∧ va_D (va_A [(b0, .inr (1, [.int (nI N), .int up, .int ch, .int wr, .int (nI bg), .int (nI en), .ref b1, .int (nI hs), .ref b2, .int (nI ss), .ref b3, .ref b4, .int (nI rc)])), (b4, .inl (o4, 4001, .inl g4))] sz) [(b0, .inr (1, [.int (nI N), .int up, .int ch, .int wr, .int (nI bg), .int (nI en), .ref b1, .int (nI hs), .ref b2, .int (nI ss), .ref b3, .ref b4, .int (nI rc)])), (b4, .inl (o4, 4001, .inl g4))]) (va_A [(b0, .inr (1, [.int (nI N), .int up, .int ch, .int wr, .int (nI bg), .int (nI en), .ref b1, .int (nI hs), .ref b2, .int (nI ss), .ref b3, .ref b4, .int (nI rc)])), (b4, .inl (o4, 4001, .inl g4))] sz)) 0 0 (va_A [(b0, .inr (1, [.int (nI N), .int up, .int ch, .int wr, .int (nI bg), .int (nI en), .ref b1, .int (nI hs), .ref b2, .int (nI ss), .ref b3, .ref b4, .int (nI rc)])), (b4, .inl (o4, 4001, .inl g4))] sz) := by
  refine Met.ofW (cc := b_BlockDeskModel_size) (maxL := 2) (ret := (some .int)) (by decide) rfl ?_
  intro p e s m args below meth c s₁ B hml hv
  obtain ⟨rfl, hsz, hP, hK, hD0⟩ := hv
  have hx := B.exec
  have hb := B.bytes
  have hr := B.returns
  have hts := atoms_spec (ws := w_BlockDeskModel_size) B.pre
  have hown : s.vm.findClass R_BlockDeskModel = some m.cls := findClass_of_methodNamed B.named
  have hlocks := B.notSynchronized
  subst hsz
  have hD := hD0.self (sz := s.heap.size)
  generalize hAe : va_A [(b0, .inr (1, [.int (nI N), .int up, .int ch, .int wr, .int (nI bg), .int (nI en), .ref b1, .int (nI hs), .ref b2, .int (nI ss), .ref b3, .ref b4, .int (nI rc)])), (b4, .inl (o4, 4001, .inl g4))] s.heap.size = A at hD ⊢
  have hA : ∀ q : Nat, s.heap.size ≤ q → A q := fun q h => by rw [← hAe]; exact Or.inr h
  have hS : va_S A s.heap s.heap [] := va_S.rf
  have hP : va_P (dC, dI) classes [(b0, .inr (1, [.int (nI N), .int up, .int ch, .int wr, .int (nI bg), .int (nI en), .ref b1, .int (nI hs), .ref b2, .int (nI ss), .ref b3, .ref b4, .int (nI rc)])), (b4, .inl (o4, 4001, .inl g4))] s.heap := hP
  have hin1 : ∀ w ∈ u_ws R_BlockDeskModel F_BlockDeskModel 13, w ∈ w_BlockDeskModel_size := by decide +kernel
  have hl := lv_entry ([.ref b0, .int k]) (n := 2) (Nat.le_of_ble_eq_true rfl)
  rw [lg_entry_eq]
  generalize (lg_sl ([.ref b0, .int k]) ++ List.replicate (2 - (lg_sl ([.ref b0, .int k])).length) Slot.unset).toArray = ls at hl ⊢
  have hl : lv_has ls 2 [(0, .ref b0), (1, .int k)] := hl
  refine lv_aload_n hx hb d_BlockDeskModel_size_0 rfl (lv_at hl 0 rfl) ?_
  refine va_get (D := (dC, dI)) (ci := 1) (v := .int up) (C := R_BlockDeskModel) (T := F_BlockDeskModel) (N := 13) hx hb hts hin1 hown hK hP 0 rfl rfl 1 (by decide) (hts (.fieldLink R_BlockDeskModel 7 "BlockDeskModel" "up" "Z") (by decide +kernel)) (fun _ h9 => h9) rfl d_BlockDeskModel_size_1 ?_
  refine lv_if_eq (tgt := 20) hx hb d_BlockDeskModel_size_4 (by decide) (fun c_4 => ?_) (fun c_4 => ?_)
  · refine lv_iconst (v := (-1)) hx hb d_BlockDeskModel_size_20 (by decide +kernel) ?_
    have hP9 := hP.sub (ws' := [(b0, .inr (1, [.int (nI N), .int up, .int ch, .int wr, .int (nI bg), .int (nI en), .ref b1, .int (nI hs), .ref b2, .int (nI ss), .ref b3, .ref b4, .int (nI rc)])), (b4, .inl (o4, 4001, .inl g4))]) [0, 1] rfl
    have hD9 := hD.sub (ws' := [(b0, .inr (1, [.int (nI N), .int up, .int ch, .int wr, .int (nI bg), .int (nI en), .ref b1, .int (nI hs), .ref b2, .int (nI ss), .ref b3, .ref b4, .int (nI rc)])), (b4, .inl (o4, 4001, .inl g4))]) [0, 1] (by decide) rfl
    have hK9 := hK.sub (tys' := [(o4, .int)]) [0] rfl
    exact W.iret (v := (-1)) hx hb hr (fun t ht hW => ⟨⟨(-1), (), rfl, zq_szS_a (by first | exact Or.inl c_4 | exact Or.inr (by omega)), by rw [ht]; exact hP9, va_K.moved hW.alike hK9, hD9⟩, hS.F ht⟩) hS.2.2 d_BlockDeskModel_size_21
  · refine lv_iload_n hx hb d_BlockDeskModel_size_7 rfl (lv_at hl 1 rfl) ?_
    refine lv_iconst (v := (-1)) hx hb d_BlockDeskModel_size_8 (by decide +kernel) ?_
    refine lv_icmp_lt (tgt := 20) hx hb d_BlockDeskModel_size_9 (by decide) (fun c_9 => ?_) (fun c_9 => ?_)
    · have c_9 : k.toInt < -1 := xq_lt_mr.mp c_9
      refine lv_iconst (v := (-1)) hx hb d_BlockDeskModel_size_20 (by decide +kernel) ?_
      have hP9 := hP.sub (ws' := [(b0, .inr (1, [.int (nI N), .int up, .int ch, .int wr, .int (nI bg), .int (nI en), .ref b1, .int (nI hs), .ref b2, .int (nI ss), .ref b3, .ref b4, .int (nI rc)])), (b4, .inl (o4, 4001, .inl g4))]) [0, 1] rfl
      have hD9 := hD.sub (ws' := [(b0, .inr (1, [.int (nI N), .int up, .int ch, .int wr, .int (nI bg), .int (nI en), .ref b1, .int (nI hs), .ref b2, .int (nI ss), .ref b3, .ref b4, .int (nI rc)])), (b4, .inl (o4, 4001, .inl g4))]) [0, 1] (by decide) rfl
      have hK9 := hK.sub (tys' := [(o4, .int)]) [0] rfl
      exact W.iret (v := (-1)) hx hb hr (fun t ht hW => ⟨⟨(-1), (), rfl, zq_szS_a (by first | exact Or.inl c_4 | exact Or.inr (by omega)), by rw [ht]; exact hP9, va_K.moved hW.alike hK9, hD9⟩, hS.F ht⟩) hS.2.2 d_BlockDeskModel_size_21
    · have c_9 : ¬ (k.toInt < -1) := fun h9 => c_9 (xq_lt_mr.mpr h9)
      refine lv_iload_n hx hb d_BlockDeskModel_size_12 rfl (lv_at hl 1 rfl) ?_
      refine lv_aload_n hx hb d_BlockDeskModel_size_13 rfl (lv_at hl 0 rfl) ?_
      refine va_get (D := (dC, dI)) (ci := 1) (v := .int (nI rc)) (C := R_BlockDeskModel) (T := F_BlockDeskModel) (N := 13) hx hb hts hin1 hown hK hP 0 rfl rfl 12 (by decide) (hts (.fieldLink R_BlockDeskModel 52 "BlockDeskModel" "records" "I") (by decide +kernel)) (fun _ h9 => h9) rfl d_BlockDeskModel_size_14 ?_
      refine lv_icmp_lt (tgt := 22) hx hb d_BlockDeskModel_size_17 (by decide) (fun c_17 => ?_) (fun c_17 => ?_)
      · have c_17 : k.toInt < ((rc : Nat) : Int) := (xq_lt_r (by omega)).mp c_17
        refine lv_iload_n hx hb d_BlockDeskModel_size_22 rfl (lv_at hl 1 rfl) ?_
        refine lv_iconst (v := (-1)) hx hb d_BlockDeskModel_size_23 (by decide +kernel) ?_
        refine lv_icmp_ne (tgt := 34) hx hb d_BlockDeskModel_size_24 (by decide) (fun c_24 => ?_) (fun c_24 => ?_)
        · obtain ⟨kk, hkk, rfl⟩ := zq_szS_ix c_9 c_24 c_17
          have hM1 := hM kk hkk
          have h41 := h4 kk (by omega)
          have hl : lv_has ls 2 [(0, .ref b0), (1, .int (nI kk))] := hl
          refine lv_aload_n hx hb d_BlockDeskModel_size_34 rfl (lv_at hl 0 rfl) ?_
          refine va_get (D := (dC, dI)) (ci := 1) (v := .ref b4) (C := R_BlockDeskModel) (T := F_BlockDeskModel) (N := 13) hx hb hts hin1 hown hK hP 0 rfl rfl 11 (by decide) (hts (.fieldLink R_BlockDeskModel 27 "BlockDeskModel" "starts" "[I") (by decide +kernel)) (fun _ h9 => h9) rfl d_BlockDeskModel_size_35 ?_
          refine lv_iload_n hx hb d_BlockDeskModel_size_38 rfl (lv_at hl 1 rfl) ?_
          refine lv_iconst (v := nI 1) hx hb d_BlockDeskModel_size_39 (by decide +kernel) ?_
          refine lv_iadd hx hb d_BlockDeskModel_size_40 ?_
          refine xq_top (nI (kk + 1)) (nI_add _ _) ?_
          refine va_iald hx hb hK hP 1 0 rfl rfl (vp_in_nI (by omega) (by omega)) d_BlockDeskModel_size_41 ?_
          refine xq_top (nI (T (kk + 1) - 4 * (kk + 1))) (by rw [nI_clamp (by omega)]; exact hT _ (by omega)) ?_
          refine lv_aload_n hx hb d_BlockDeskModel_size_42 rfl (lv_at hl 0 rfl) ?_
          refine va_get (D := (dC, dI)) (ci := 1) (v := .ref b4) (C := R_BlockDeskModel) (T := F_BlockDeskModel) (N := 13) hx hb hts hin1 hown hK hP 0 rfl rfl 11 (by decide) (hts (.fieldLink R_BlockDeskModel 27 "BlockDeskModel" "starts" "[I") (by decide +kernel)) (fun _ h9 => h9) rfl d_BlockDeskModel_size_43 ?_
          refine lv_iload_n hx hb d_BlockDeskModel_size_46 rfl (lv_at hl 1 rfl) ?_
          refine va_iald hx hb hK hP 1 0 rfl rfl (vp_in_nI (by omega) (by omega)) d_BlockDeskModel_size_47 ?_
          refine xq_top (nI (T kk - 4 * kk)) (by rw [nI_clamp (by omega)]; exact hT _ (by omega)) ?_
          refine lv_isub hx hb d_BlockDeskModel_size_48 ?_
          refine xq_top (nI (T (kk + 1) - 4 * (kk + 1) - (T kk - 4 * kk))) (pk_sub (by omega)) ?_
          refine xq_top (nI (T (kk + 1) - T kk - 4)) (congrArg nI (by omega)) ?_
          have hP9 := hP.sub (ws' := [(b0, .inr (1, [.int (nI N), .int up, .int ch, .int wr, .int (nI bg), .int (nI en), .ref b1, .int (nI hs), .ref b2, .int (nI ss), .ref b3, .ref b4, .int (nI rc)])), (b4, .inl (o4, 4001, .inl g4))]) [0, 1] rfl
          have hD9 := hD.sub (ws' := [(b0, .inr (1, [.int (nI N), .int up, .int ch, .int wr, .int (nI bg), .int (nI en), .ref b1, .int (nI hs), .ref b2, .int (nI ss), .ref b3, .ref b4, .int (nI rc)])), (b4, .inl (o4, 4001, .inl g4))]) [0, 1] (by decide) rfl
          have hK9 := hK.sub (tys' := [(o4, .int)]) [0] rfl
          exact W.iret (v := nI (T (kk + 1) - T kk - 4)) hx hb hr (fun t ht hW => ⟨⟨nI (T (kk + 1) - T kk - 4), (), rfl, zq_szS_c c_4 hkk (by omega), by rw [ht]; exact hP9, va_K.moved hW.alike hK9, hD9⟩, hS.F ht⟩) hS.2.2 d_BlockDeskModel_size_49
        · refine lv_aload_n hx hb d_BlockDeskModel_size_27 rfl (lv_at hl 0 rfl) ?_
          refine va_get (D := (dC, dI)) (ci := 1) (v := .int (nI ss)) (C := R_BlockDeskModel) (T := F_BlockDeskModel) (N := 13) hx hb hts hin1 hown hK hP 0 rfl rfl 9 (by decide) (hts (.fieldLink R_BlockDeskModel 55 "BlockDeskModel" "shotSize" "I") (by decide +kernel)) (fun _ h9 => h9) rfl d_BlockDeskModel_size_28 ?_
          refine lv_goto (tgt := 49) hx hb d_BlockDeskModel_size_31 (by decide) ?_
          have hP9 := hP.sub (ws' := [(b0, .inr (1, [.int (nI N), .int up, .int ch, .int wr, .int (nI bg), .int (nI en), .ref b1, .int (nI hs), .ref b2, .int (nI ss), .ref b3, .ref b4, .int (nI rc)])), (b4, .inl (o4, 4001, .inl g4))]) [0, 1] rfl
          have hD9 := hD.sub (ws' := [(b0, .inr (1, [.int (nI N), .int up, .int ch, .int wr, .int (nI bg), .int (nI en), .ref b1, .int (nI hs), .ref b2, .int (nI ss), .ref b3, .ref b4, .int (nI rc)])), (b4, .inl (o4, 4001, .inl g4))]) [0, 1] (by decide) rfl
          have hK9 := hK.sub (tys' := [(o4, .int)]) [0] rfl
          exact W.iret (v := nI ss) hx hb hr (fun t ht hW => ⟨⟨nI ss, (), rfl, zq_szS_b c_4 c_24, by rw [ht]; exact hP9, va_K.moved hW.alike hK9, hD9⟩, hS.F ht⟩) hS.2.2 d_BlockDeskModel_size_49
      · have c_17 : ¬ (k.toInt < ((rc : Nat) : Int)) := fun h9 => c_17 ((xq_lt_r (by omega)).mpr h9)
        refine lv_iconst (v := (-1)) hx hb d_BlockDeskModel_size_20 (by decide +kernel) ?_
        have hP9 := hP.sub (ws' := [(b0, .inr (1, [.int (nI N), .int up, .int ch, .int wr, .int (nI bg), .int (nI en), .ref b1, .int (nI hs), .ref b2, .int (nI ss), .ref b3, .ref b4, .int (nI rc)])), (b4, .inl (o4, 4001, .inl g4))]) [0, 1] rfl
        have hD9 := hD.sub (ws' := [(b0, .inr (1, [.int (nI N), .int up, .int ch, .int wr, .int (nI bg), .int (nI en), .ref b1, .int (nI hs), .ref b2, .int (nI ss), .ref b3, .ref b4, .int (nI rc)])), (b4, .inl (o4, 4001, .inl g4))]) [0, 1] (by decide) rfl
        have hK9 := hK.sub (tys' := [(o4, .int)]) [0] rfl
        exact W.iret (v := (-1)) hx hb hr (fun t ht hW => ⟨⟨(-1), (), rfl, zq_szS_a (by first | exact Or.inl c_4 | exact Or.inr (by omega)), by rw [ht]; exact hP9, va_K.moved hW.alike hK9, hD9⟩, hS.F ht⟩) hS.2.2 d_BlockDeskModel_size_21
set_option maxHeartbeats 4000000 in
set_option maxRecDepth 100000 in
theorem c_BlockDeskModel_byteOf (l : Launch) (dC : Nat → ClassId) (dI : Nat → Nat → Nat) (sz : Nat) (b0 : Nat) (b1 : Nat) (b2 : Nat) (b3 : Nat) (b4 : Nat) (N : Nat) (rc : Nat) (bg : Nat) (en : Nat) (ss : Nat) (hs : Nat) (up : Int32) (ch : Int32) (wr : Int32) (o4 : ClassId) (g4 : Nat → Int32) (T : Nat → Nat) (o2 : ClassId) (o3 : ClassId) (g2 : Nat → Int32) (g3 : Nat → Int32) (k : Int32) (i : Int32) (hrc : rc ≤ 4000) (hT : ∀ z, z ≤ rc → g4 z = nI (T z - 4 * z)) (hM : ∀ z, z < rc → T z + 4 ≤ T (z + 1)) (h4 : ∀ z, z ≤ rc → 4 * z ≤ T z) (hss : ss ≤ 8000) (hTb : ∀ z, z ≤ rc → T z ≤ 16000) : Met l y_BlockDeskModel_byteOf w_BlockDeskModel_byteOf ({ frames := 1, cells := 0, slots := 0, locals := 22 }) (va_Pc [.ref b0, .int k, .int i] (fun U => U.heap.size = sz ∧ va_P (dC, dI) classes [(b0, .inr (1, [.int (nI N), .int up, .int ch, .int wr, .int (nI bg), .int (nI en), .ref b1, .int (nI hs), .ref b2, .int (nI ss), .ref b3, .ref b4, .int (nI rc)])), (b2, .inl (o2, 8000, .inl g2)), (b3, .inl (o3, 16000, .inl g3)), (b4, .inl (o4, 4001, .inl g4))] U.heap ∧ va_K (dC, dI) classes [(o2, .int), (o3, .int), (o4, .int)] U ∧ va_D (fun _ => True) [(b0, .inr (1, [.int (nI N), .int up, .int ch, .int wr, .int (nI bg), .int (nI en), .ref b1, .int (nI hs), .ref b2, .int (nI ss), .ref b3, .ref b4, .int (nI rc)])), (b2, .inl (o2, 8000, .inl g2)), (b3, .inl (o3, 16000, .inl g3)), (b4, .inl (o4, 4001, .inl g4))])) (va_Qi (fun (r : Int32) (_ : Unit) => r = zq_btS up rc ss T g2 g3 k i) (fun (_ : Unit) (t : State) => va_P (dC, dI) classes [(b0, .inr (1, [.int (nI N), .int up, .int ch, .int wr, .int (nI bg), .int (nI en), .ref b1, .int (nI hs), .ref b2, .int (nI ss), .ref b3, .ref b4, .int (nI rc)])), (b2, .inl (o2, 8000, .inl g2)), (b3, .inl (o3, 16000, .inl g3)), (b4, .inl (o4, 4001, .inl g4))] t.heap ∧ va_K (dC, dI) classes [(o2, .int), (o3, .int), (o4, .int)] t ∧ va_D (va_A [(b0, .inr (1, [.int (nI N), .int up, .int ch, .int wr, .int (nI bg), .int (nI en), .ref b1, .int (nI hs), .ref b2, .int (nI ss), .ref b3, .ref b4, .int (nI rc)])), (b2, .inl (o2, 8000, .inl g2)), (b3, .inl (o3, 16000, .inl g3)), (b4, .inl (o4, 4001, .inl g4))] sz) [(b0, .inr (1, [.int (nI N), .int up, .int ch, .int wr, .int (nI bg), .int (nI en), .ref b1, .int (nI hs), .ref b2, .int (nI ss), .ref b3, .ref b4, .int (nI rc)])), (b2, .inl (o2, 8000, .inl g2)), (b3, .inl (o3, 16000, .inl g3)), (b4, .inl (o4, 4001, .inl g4))]) (va_A [(b0, .inr (1, [.int (nI N), .int up, .int ch, .int wr, .int (nI bg), .int (nI en), .ref b1, .int (nI hs), .ref b2, .int (nI ss), .ref b3, .ref b4, .int (nI rc)])), (b2, .inl (o2, 8000, .inl g2)), (b3, .inl (o3, 16000, .inl g3)), (b4, .inl (o4, 4001, .inl g4))] sz)) 0 0 (va_A [(b0, .inr (1, [.int (nI N), .int up, .int ch, .int wr, .int (nI bg), .int (nI en), .ref b1, .int (nI hs), .ref b2, .int (nI ss), .ref b3, .ref b4, .int (nI rc)])), (b2, .inl (o2, 8000, .inl g2)), (b3, .inl (o3, 16000, .inl g3)), (b4, .inl (o4, 4001, .inl g4))] sz) := by
  refine Met.ofW (cc := b_BlockDeskModel_byteOf) (maxL := 3) (ret := (some .int)) (by decide) rfl ?_
  intro p e s m args below meth c s₁ B hml hv
  obtain ⟨rfl, hsz, hP, hK, hD0⟩ := hv
  have hx := B.exec
  have hb := B.bytes
  have hr := B.returns
  have hts := atoms_spec (ws := w_BlockDeskModel_byteOf) B.pre
  have hown : s.vm.findClass R_BlockDeskModel = some m.cls := findClass_of_methodNamed B.named
  have hlocks := B.notSynchronized
  subst hsz
  have hD := hD0.self (sz := s.heap.size)
  generalize hAe : va_A [(b0, .inr (1, [.int (nI N), .int up, .int ch, .int wr, .int (nI bg), .int (nI en), .ref b1, .int (nI hs), .ref b2, .int (nI ss), .ref b3, .ref b4, .int (nI rc)])), (b2, .inl (o2, 8000, .inl g2)), (b3, .inl (o3, 16000, .inl g3)), (b4, .inl (o4, 4001, .inl g4))] s.heap.size = A at hD ⊢
  have hA : ∀ q : Nat, s.heap.size ≤ q → A q := fun q h => by rw [← hAe]; exact Or.inr h
  have hS : va_S A s.heap s.heap [] := va_S.rf
  have hP : va_P (dC, dI) classes [(b0, .inr (1, [.int (nI N), .int up, .int ch, .int wr, .int (nI bg), .int (nI en), .ref b1, .int (nI hs), .ref b2, .int (nI ss), .ref b3, .ref b4, .int (nI rc)])), (b2, .inl (o2, 8000, .inl g2)), (b3, .inl (o3, 16000, .inl g3)), (b4, .inl (o4, 4001, .inl g4))] s.heap := hP
  have hin1 : ∀ w ∈ u_ws R_BlockDeskModel F_BlockDeskModel 13, w ∈ w_BlockDeskModel_byteOf := by decide +kernel
  have hl := lv_entry ([.ref b0, .int k, .int i]) (n := 3) (Nat.le_of_ble_eq_true rfl)
  rw [lg_entry_eq]
  generalize (lg_sl ([.ref b0, .int k, .int i]) ++ List.replicate (3 - (lg_sl ([.ref b0, .int k, .int i])).length) Slot.unset).toArray = ls at hl ⊢
  have hl : lv_has ls 3 [(0, .ref b0), (1, .int k), (2, .int i)] := hl
  refine lv_iload_n hx hb d_BlockDeskModel_byteOf_0 rfl (lv_at hl 2 rfl) ?_
  refine lv_if_lt (tgt := 13) hx hb d_BlockDeskModel_byteOf_1 (by decide) (fun c_1 => ?_) (fun c_1 => ?_)
  · have c_1 : i.toInt < 0 := xq_lt_0r.mp c_1
    refine lv_iconst (v := (-1)) hx hb d_BlockDeskModel_byteOf_13 (by decide +kernel) ?_
    have hP9 := hP.sub (ws' := [(b0, .inr (1, [.int (nI N), .int up, .int ch, .int wr, .int (nI bg), .int (nI en), .ref b1, .int (nI hs), .ref b2, .int (nI ss), .ref b3, .ref b4, .int (nI rc)])), (b2, .inl (o2, 8000, .inl g2)), (b3, .inl (o3, 16000, .inl g3)), (b4, .inl (o4, 4001, .inl g4))]) [0, 1, 2, 3] rfl
    have hD9 := hD.sub (ws' := [(b0, .inr (1, [.int (nI N), .int up, .int ch, .int wr, .int (nI bg), .int (nI en), .ref b1, .int (nI hs), .ref b2, .int (nI ss), .ref b3, .ref b4, .int (nI rc)])), (b2, .inl (o2, 8000, .inl g2)), (b3, .inl (o3, 16000, .inl g3)), (b4, .inl (o4, 4001, .inl g4))]) [0, 1, 2, 3] (by decide) rfl
    have hK9 := hK.sub (tys' := [(o2, .int), (o3, .int), (o4, .int)]) [0, 1, 2] rfl
    exact W.iret (v := (-1)) hx hb hr (fun t ht hW => ⟨⟨(-1), (), rfl, zq_btS_a (by first | exact Or.inl c_1 | exact Or.inr (by omega)), by rw [ht]; exact hP9, va_K.moved hW.alike hK9, hD9⟩, hS.F ht⟩) hS.2.2 d_BlockDeskModel_byteOf_14
  · have c_1 : ¬ (i.toInt < 0) := fun h9 => c_1 (xq_lt_0r.mpr h9)
    refine lv_iload_n hx hb d_BlockDeskModel_byteOf_4 rfl (lv_at hl 2 rfl) ?_
    refine lv_aload_n hx hb d_BlockDeskModel_byteOf_5 rfl (lv_at hl 0 rfl) ?_
    refine lv_iload_n hx hb d_BlockDeskModel_byteOf_6 rfl (lv_at hl 1 rfl) ?_
    have hPc := hP.sub (ws' := [(b0, .inr (1, [.int (nI N), .int up, .int ch, .int wr, .int (nI bg), .int (nI en), .ref b1, .int (nI hs), .ref b2, .int (nI ss), .ref b3, .ref b4, .int (nI rc)])), (b4, .inl (o4, 4001, .inl g4))]) [0, 3] rfl
    have hDc := hD.sub (ws' := [(b0, .inr (1, [.int (nI N), .int up, .int ch, .int wr, .int (nI bg), .int (nI en), .ref b1, .int (nI hs), .ref b2, .int (nI ss), .ref b3, .ref b4, .int (nI rc)])), (b4, .inl (o4, 4001, .inl g4))]) [0, 3] (by decide) rfl
    have hKc := hK.sub (tys' := [(o4, .int)]) [2] rfl
    have hFc := va_free (wc := [(b0, .inr (1, [.int (nI N), .int up, .int ch, .int wr, .int (nI bg), .int (nI en), .ref b1, .int (nI hs), .ref b2, .int (nI ss), .ref b3, .ref b4, .int (nI rc)])), (b4, .inl (o4, 4001, .inl g4))]) hD hS hA [0, 3] rfl
    refine va_calli (va_runV (As := [.int k]) (rest := [.int i]) ⟨hx, hb, hml, hown, hts⟩ (c_BlockDeskModel_size l dC dI s.heap.size b0 b1 b2 b3 b4 N rc bg en ss hs up ch wr o4 g4 T k hrc hT hM h4) (cwV 1 hts g_BlockDeskModel_byteOf_BlockDeskModel_size rfl rfl rfl (by decide +kernel) ⟨Nat.le_of_ble_eq_true rfl, Nat.le_of_ble_eq_true rfl⟩) ⟨fun a U g mk q => by obtain ⟨q0, q1, qP, qK, qD⟩ := q; exact ⟨q0, q1, qP, va_K.moved (u := U) (U := U.calling g mk a) (Vm.Alike.refl U.vm) qK, qD⟩, va_recv hKc hPc (ci := 1) (q0 := 0) rfl rfl, fun U hU hW => ⟨rfl, by rw [hU], by rw [hU]; exact hPc, va_K.moved hW.alike hKc, hDc.weaken (fun _ _ _ _ => trivial)⟩⟩ rfl rfl hl.1 rfl (lv_room (Nat.le_of_ble_eq_true rfl)) d_BlockDeskModel_byteOf_7 ⟨(Nat.zero_le _), (Nat.zero_le _)⟩) hS (fun q _ h => hFc q h) hFc (fun r_7 u t H1 locs ht hvm hw hB hz1 hk1 hS => ?_)
    obtain ⟨hP1, hK1, hD1⟩ := hB
    rw [ht] at hP1
    try dsimp only at hw
    obtain ⟨hP, hD⟩ := va_join (wr := [(b2, .inl (o2, 8000, .inl g2)), (b3, .inl (o3, 16000, .inl g3))]) (w1 := [(b0, .inr (1, [.int (nI N), .int up, .int ch, .int wr, .int (nI bg), .int (nI en), .ref b1, .int (nI hs), .ref b2, .int (nI ss), .ref b3, .ref b4, .int (nI rc)])), (b4, .inl (o4, 4001, .inl g4))]) hP hD [0, 3] [1, 2] rfl rfl (by decide) (by decide) hk1 hFc hP1 hD1
    generalize H1 = H at hP hS ⊢
    have hP : va_P (dC, dI) classes [(b2, .inl (o2, 8000, .inl g2)), (b3, .inl (o3, 16000, .inl g3)), (b0, .inr (1, [.int (nI N), .int up, .int ch, .int wr, .int (nI bg), .int (nI en), .ref b1, .int (nI hs), .ref b2, .int (nI ss), .ref b3, .ref b4, .int (nI rc)])), (b4, .inl (o4, 4001, .inl g4))] H := hP
    have hD : va_D A [(b2, .inl (o2, 8000, .inl g2)), (b3, .inl (o3, 16000, .inl g3)), (b0, .inr (1, [.int (nI N), .int up, .int ch, .int wr, .int (nI bg), .int (nI en), .ref b1, .int (nI hs), .ref b2, .int (nI ss), .ref b3, .ref b4, .int (nI rc)])), (b4, .inl (o4, 4001, .inl g4))] := hD
    subst hw
    refine lv_icmp_lt (tgt := 15) hx hb d_BlockDeskModel_byteOf_10 (by decide) (fun c_10 => ?_) (fun c_10 => ?_)
    · have c_10 : i.toInt < (zq_szS up rc ss T k).toInt := xq_lt.mp c_10
      rcases zq_szS_in (by omega) hss hTb c_1 c_10 with ⟨rfl, ii, hii, rfl⟩ | ⟨kk, ii, hkk, rfl, hii, rfl⟩
      · have hk9 : True := trivial
        have hl : lv_has ls 3 [(0, .ref b0), (1, .int (-1)), (2, .int (nI ii))] := hl
        refine lv_iload_n hx hb d_BlockDeskModel_byteOf_15 rfl (lv_at hl 1 rfl) ?_
        refine lv_iconst (v := (-1)) hx hb d_BlockDeskModel_byteOf_16 (by decide +kernel) ?_
        refine lv_icmp_ne (tgt := 29) hx hb d_BlockDeskModel_byteOf_17 (by decide) (fun c_17 => ?_) (fun c_17 => ?_)
        · exact absurd rfl c_17
        · refine lv_aload_n hx hb d_BlockDeskModel_byteOf_20 rfl (lv_at hl 0 rfl) ?_
          refine va_get (D := (dC, dI)) (ci := 1) (v := .ref b2) (C := R_BlockDeskModel) (T := F_BlockDeskModel) (N := 13) hx hb hts hin1 hown hK hP 2 rfl rfl 8 (by decide) (hts (.fieldLink R_BlockDeskModel 21 "BlockDeskModel" "shot" "[I") (by decide +kernel)) (fun _ h9 => h9) rfl d_BlockDeskModel_byteOf_21 ?_
          refine lv_iload_n hx hb d_BlockDeskModel_byteOf_24 rfl (lv_at hl 2 rfl) ?_
          refine va_iald hx hb hK hP 0 0 rfl rfl (vp_in_nI (by omega) (by omega)) d_BlockDeskModel_byteOf_25 ?_
          refine xq_top (g2 ii) (by rw [nI_clamp (by omega)]) ?_
          refine lv_goto (tgt := 42) hx hb d_BlockDeskModel_byteOf_26 (by decide) ?_
          have hP9 := hP.sub (ws' := [(b0, .inr (1, [.int (nI N), .int up, .int ch, .int wr, .int (nI bg), .int (nI en), .ref b1, .int (nI hs), .ref b2, .int (nI ss), .ref b3, .ref b4, .int (nI rc)])), (b2, .inl (o2, 8000, .inl g2)), (b3, .inl (o3, 16000, .inl g3)), (b4, .inl (o4, 4001, .inl g4))]) [2, 0, 1, 3] rfl
          have hD9 := hD.sub (ws' := [(b0, .inr (1, [.int (nI N), .int up, .int ch, .int wr, .int (nI bg), .int (nI en), .ref b1, .int (nI hs), .ref b2, .int (nI ss), .ref b3, .ref b4, .int (nI rc)])), (b2, .inl (o2, 8000, .inl g2)), (b3, .inl (o3, 16000, .inl g3)), (b4, .inl (o4, 4001, .inl g4))]) [2, 0, 1, 3] (by decide) rfl
          have hK9 := hK.sub (tys' := [(o2, .int), (o3, .int), (o4, .int)]) [0, 1, 2] rfl
          exact W.iret (v := g2 ii) hx hb hr (fun t ht hW => ⟨⟨g2 ii, (), rfl, zq_btS_b (by omega) c_1 c_10 rfl, by rw [ht]; exact hP9, va_K.moved hW.alike hK9, hD9⟩, hS.F ht⟩) hS.2.2 d_BlockDeskModel_byteOf_42
      · have hM1 := hM kk hkk
        have hTb1 := hTb (kk + 1) (by omega)
        have h41 := h4 kk (by omega)
        have hl : lv_has ls 3 [(0, .ref b0), (1, .int (nI kk)), (2, .int (nI ii))] := hl
        refine lv_iload_n hx hb d_BlockDeskModel_byteOf_15 rfl (lv_at hl 1 rfl) ?_
        refine lv_iconst (v := (-1)) hx hb d_BlockDeskModel_byteOf_16 (by decide +kernel) ?_
        refine lv_icmp_ne (tgt := 29) hx hb d_BlockDeskModel_byteOf_17 (by decide) (fun c_17 => ?_) (fun c_17 => ?_)
        · refine lv_aload_n hx hb d_BlockDeskModel_byteOf_29 rfl (lv_at hl 0 rfl) ?_
          refine va_get (D := (dC, dI)) (ci := 1) (v := .ref b3) (C := R_BlockDeskModel) (T := F_BlockDeskModel) (N := 13) hx hb hts hin1 hown hK hP 2 rfl rfl 10 (by decide) (hts (.fieldLink R_BlockDeskModel 24 "BlockDeskModel" "bytes" "[I") (by decide +kernel)) (fun _ h9 => h9) rfl d_BlockDeskModel_byteOf_30 ?_
          refine lv_aload_n hx hb d_BlockDeskModel_byteOf_33 rfl (lv_at hl 0 rfl) ?_
          refine va_get (D := (dC, dI)) (ci := 1) (v := .ref b4) (C := R_BlockDeskModel) (T := F_BlockDeskModel) (N := 13) hx hb hts hin1 hown hK hP 2 rfl rfl 11 (by decide) (hts (.fieldLink R_BlockDeskModel 27 "BlockDeskModel" "starts" "[I") (by decide +kernel)) (fun _ h9 => h9) rfl d_BlockDeskModel_byteOf_34 ?_
          refine lv_iload_n hx hb d_BlockDeskModel_byteOf_37 rfl (lv_at hl 1 rfl) ?_
          refine va_iald hx hb hK hP 3 2 rfl rfl (vp_in_nI (by omega) (by omega)) d_BlockDeskModel_byteOf_38 ?_
          refine xq_top (nI (T kk - 4 * kk)) (by rw [nI_clamp (by omega)]; exact hT _ (by omega)) ?_
          refine lv_iload_n hx hb d_BlockDeskModel_byteOf_39 rfl (lv_at hl 2 rfl) ?_
          refine lv_iadd hx hb d_BlockDeskModel_byteOf_40 ?_
          refine xq_top (nI (T kk - 4 * kk + ii)) (nI_add _ _) ?_
          refine va_iald hx hb hK hP 1 1 rfl rfl (vp_in_nI (by omega) (by omega)) d_BlockDeskModel_byteOf_41 ?_
          refine xq_top (g3 (T kk - 4 * kk + ii)) (by rw [nI_clamp (by omega)]) ?_
          have hP9 := hP.sub (ws' := [(b0, .inr (1, [.int (nI N), .int up, .int ch, .int wr, .int (nI bg), .int (nI en), .ref b1, .int (nI hs), .ref b2, .int (nI ss), .ref b3, .ref b4, .int (nI rc)])), (b2, .inl (o2, 8000, .inl g2)), (b3, .inl (o3, 16000, .inl g3)), (b4, .inl (o4, 4001, .inl g4))]) [2, 0, 1, 3] rfl
          have hD9 := hD.sub (ws' := [(b0, .inr (1, [.int (nI N), .int up, .int ch, .int wr, .int (nI bg), .int (nI en), .ref b1, .int (nI hs), .ref b2, .int (nI ss), .ref b3, .ref b4, .int (nI rc)])), (b2, .inl (o2, 8000, .inl g2)), (b3, .inl (o3, 16000, .inl g3)), (b4, .inl (o4, 4001, .inl g4))]) [2, 0, 1, 3] (by decide) rfl
          have hK9 := hK.sub (tys' := [(o2, .int), (o3, .int), (o4, .int)]) [0, 1, 2] rfl
          exact W.iret (v := g3 (T kk - 4 * kk + ii)) hx hb hr (fun t ht hW => ⟨⟨g3 (T kk - 4 * kk + ii), (), rfl, zq_btS_c (by omega) (by omega) c_1 c_10 rfl, by rw [ht]; exact hP9, va_K.moved hW.alike hK9, hD9⟩, hS.F ht⟩) hS.2.2 d_BlockDeskModel_byteOf_42
        · exact absurd c_17 (xq_nm1 (by omega))
    · have c_10 : ¬ (i.toInt < (zq_szS up rc ss T k).toInt) := fun h9 => c_10 (xq_lt.mpr h9)
      refine lv_iconst (v := (-1)) hx hb d_BlockDeskModel_byteOf_13 (by decide +kernel) ?_
      have hP9 := hP.sub (ws' := [(b0, .inr (1, [.int (nI N), .int up, .int ch, .int wr, .int (nI bg), .int (nI en), .ref b1, .int (nI hs), .ref b2, .int (nI ss), .ref b3, .ref b4, .int (nI rc)])), (b2, .inl (o2, 8000, .inl g2)), (b3, .inl (o3, 16000, .inl g3)), (b4, .inl (o4, 4001, .inl g4))]) [2, 0, 1, 3] rfl
      have hD9 := hD.sub (ws' := [(b0, .inr (1, [.int (nI N), .int up, .int ch, .int wr, .int (nI bg), .int (nI en), .ref b1, .int (nI hs), .ref b2, .int (nI ss), .ref b3, .ref b4, .int (nI rc)])), (b2, .inl (o2, 8000, .inl g2)), (b3, .inl (o3, 16000, .inl g3)), (b4, .inl (o4, 4001, .inl g4))]) [2, 0, 1, 3] (by decide) rfl
      have hK9 := hK.sub (tys' := [(o2, .int), (o3, .int), (o4, .int)]) [0, 1, 2] rfl
      exact W.iret (v := (-1)) hx hb hr (fun t ht hW => ⟨⟨(-1), (), rfl, zq_btS_a (by first | exact Or.inl c_1 | exact Or.inr (by omega)), by rw [ht]; exact hP9, va_K.moved hW.alike hK9, hD9⟩, hS.F ht⟩) hS.2.2 d_BlockDeskModel_byteOf_14
set_option maxHeartbeats 4000000 in
set_option maxRecDepth 100000 in
theorem c_BlockDeskModel_state (l : Launch) (dC : Nat → ClassId) (dI : Nat → Nat → Nat) (sz : Nat) (b0 : Nat) (b1 : Nat) (b2 : Nat) (b3 : Nat) (b4 : Nat) (N : Nat) (rc : Nat) (bg : Nat) (en : Nat) (ss : Nat) (hs : Nat) (up : Int32) (ch : Int32) (wr : Int32) (what : Int32)  : Met l y_BlockDeskModel_state w_BlockDeskModel_state ({ frames := 0, cells := 0, slots := 0, locals := 0 }) (va_Pc [.ref b0, .int what] (fun U => U.heap.size = sz ∧ va_P (dC, dI) classes [(b0, .inr (1, [.int (nI N), .int up, .int ch, .int wr, .int (nI bg), .int (nI en), .ref b1, .int (nI hs), .ref b2, .int (nI ss), .ref b3, .ref b4, .int (nI rc)]))] U.heap ∧ va_K (dC, dI) classes [] U ∧ va_D (fun _ => True) [(b0, .inr (1, [.int (nI N), .int up, .int ch, .int wr, .int (nI bg), .int (nI en), .ref b1, .int (nI hs), .ref b2, .int (nI ss), .ref b3, .ref b4, .int (nI rc)]))])) (va_Qi (fun (r : Int32) (_ : Unit) => r = zq_stS up rc bg en hs wr what) (fun (_ : Unit) (t : State) => va_P (dC, dI) classes [(b0, .inr (1, [.int (nI N), .int up, .int ch, .int wr, .int (nI bg), .int (nI en), .ref b1, .int (nI hs), .ref b2, .int (nI ss), .ref b3, .ref b4, .int (nI rc)]))] t.heap ∧ va_K (dC, dI) classes [] t ∧ va_D (va_A [(b0, .inr (1, [.int (nI N), .int up, .int ch, .int wr, .int (nI bg), .int (nI en), .ref b1, .int (nI hs), .ref b2, .int (nI ss), .ref b3, .ref b4, .int (nI rc)]))] sz) [(b0, .inr (1, [.int (nI N), .int up, .int ch, .int wr, .int (nI bg), .int (nI en), .ref b1, .int (nI hs), .ref b2, .int (nI ss), .ref b3, .ref b4, .int (nI rc)]))]) (va_A [(b0, .inr (1, [.int (nI N), .int up, .int ch, .int wr, .int (nI bg), .int (nI en), .ref b1, .int (nI hs), .ref b2, .int (nI ss), .ref b3, .ref b4, .int (nI rc)]))] sz)) 0 0 (va_A [(b0, .inr (1, [.int (nI N), .int up, .int ch, .int wr, .int (nI bg), .int (nI en), .ref b1, .int (nI hs), .ref b2, .int (nI ss), .ref b3, .ref b4, .int (nI rc)]))] sz) := by
  refine Met.ofW (cc := b_BlockDeskModel_state) (maxL := 2) (ret := (some .int)) (by decide) rfl ?_
  intro p e s m args below meth c s₁ B hml hv
  obtain ⟨rfl, hsz, hP, hK, hD0⟩ := hv
  have hx := B.exec
  have hb := B.bytes
  have hr := B.returns
  have hts := atoms_spec (ws := w_BlockDeskModel_state) B.pre
  have hown : s.vm.findClass R_BlockDeskModel = some m.cls := findClass_of_methodNamed B.named
  have hlocks := B.notSynchronized
  subst hsz
  have hD := hD0.self (sz := s.heap.size)
  generalize hAe : va_A [(b0, .inr (1, [.int (nI N), .int up, .int ch, .int wr, .int (nI bg), .int (nI en), .ref b1, .int (nI hs), .ref b2, .int (nI ss), .ref b3, .ref b4, .int (nI rc)]))] s.heap.size = A at hD ⊢
  have hA : ∀ q : Nat, s.heap.size ≤ q → A q := fun q h => by rw [← hAe]; exact Or.inr h
  have hS : va_S A s.heap s.heap [] := va_S.rf
  have hP : va_P (dC, dI) classes [(b0, .inr (1, [.int (nI N), .int up, .int ch, .int wr, .int (nI bg), .int (nI en), .ref b1, .int (nI hs), .ref b2, .int (nI ss), .ref b3, .ref b4, .int (nI rc)]))] s.heap := hP
  have hin1 : ∀ w ∈ u_ws R_BlockDeskModel F_BlockDeskModel 13, w ∈ w_BlockDeskModel_state := by decide +kernel
  have hl := lv_entry ([.ref b0, .int what]) (n := 2) (Nat.le_of_ble_eq_true rfl)
  rw [lg_entry_eq]
  generalize (lg_sl ([.ref b0, .int what]) ++ List.replicate (2 - (lg_sl ([.ref b0, .int what])).length) Slot.unset).toArray = ls at hl ⊢
  have hl : lv_has ls 2 [(0, .ref b0), (1, .int what)] := hl
  refine lv_iload_n hx hb d_BlockDeskModel_state_0 rfl (lv_at hl 1 rfl) ?_
  refine lv_if_ne (tgt := 17) hx hb d_BlockDeskModel_state_1 (by decide) (fun c_1 => ?_) (fun c_1 => ?_)
  · refine lv_iload_n hx hb d_BlockDeskModel_state_17 rfl (lv_at hl 1 rfl) ?_
    refine lv_iconst (v := nI 5) hx hb d_BlockDeskModel_state_18 (by decide +kernel) ?_
    refine lv_icmp_ne (tgt := 27) hx hb d_BlockDeskModel_state_19 (by decide) (fun c_19 => ?_) (fun c_19 => ?_)
    · refine lv_aload_n hx hb d_BlockDeskModel_state_27 rfl (lv_at hl 0 rfl) ?_
      refine va_get (D := (dC, dI)) (ci := 1) (v := .int up) (C := R_BlockDeskModel) (T := F_BlockDeskModel) (N := 13) hx hb hts hin1 hown hK hP 0 rfl rfl 1 (by decide) (hts (.fieldLink R_BlockDeskModel 7 "BlockDeskModel" "up" "Z") (by decide +kernel)) (fun _ h9 => h9) rfl d_BlockDeskModel_state_28 ?_
      refine lv_if_ne (tgt := 36) hx hb d_BlockDeskModel_state_31 (by decide) (fun c_31 => ?_) (fun c_31 => ?_)
      · refine lv_iload_n hx hb d_BlockDeskModel_state_36 rfl (lv_at hl 1 rfl) ?_
        by_cases h_1 : what = nI 1
        · subst h_1
          refine lv_tableIn (off := 31) (tgt := 68) hx hb d_BlockDeskModel_state_37 (by decide +kernel) (by decide +kernel) (by decide +kernel) (by decide) ?_
          refine lv_aload_n hx hb d_BlockDeskModel_state_68 rfl (lv_at hl 0 rfl) ?_
          refine va_get (D := (dC, dI)) (ci := 1) (v := .int (nI rc)) (C := R_BlockDeskModel) (T := F_BlockDeskModel) (N := 13) hx hb hts hin1 hown hK hP 0 rfl rfl 12 (by decide) (hts (.fieldLink R_BlockDeskModel 52 "BlockDeskModel" "records" "I") (by decide +kernel)) (fun _ h9 => h9) rfl d_BlockDeskModel_state_69 ?_
          have hP9 := hP.sub (ws' := [(b0, .inr (1, [.int (nI N), .int up, .int ch, .int wr, .int (nI bg), .int (nI en), .ref b1, .int (nI hs), .ref b2, .int (nI ss), .ref b3, .ref b4, .int (nI rc)]))]) [0] rfl
          have hD9 := hD.sub (ws' := [(b0, .inr (1, [.int (nI N), .int up, .int ch, .int wr, .int (nI bg), .int (nI en), .ref b1, .int (nI hs), .ref b2, .int (nI ss), .ref b3, .ref b4, .int (nI rc)]))]) [0] (by decide) rfl
          have hK9 := hK.sub (tys' := []) [] rfl
          exact W.iret (v := nI rc) hx hb hr (fun t ht hW => ⟨⟨nI rc, (), rfl, (by unfold zq_stS; rw [if_neg c_1, if_neg c_19, if_neg c_31, if_pos rfl]), by rw [ht]; exact hP9, va_K.moved hW.alike hK9, hD9⟩, hS.F ht⟩) hS.2.2 d_BlockDeskModel_state_72
        · by_cases h_2 : what = nI 2
          · subst h_2
            refine lv_tableIn (off := 36) (tgt := 73) hx hb d_BlockDeskModel_state_37 (by decide +kernel) (by decide +kernel) (by decide +kernel) (by decide) ?_
            refine lv_aload_n hx hb d_BlockDeskModel_state_73 rfl (lv_at hl 0 rfl) ?_
            refine va_get (D := (dC, dI)) (ci := 1) (v := .int (nI bg)) (C := R_BlockDeskModel) (T := F_BlockDeskModel) (N := 13) hx hb hts hin1 hown hK hP 0 rfl rfl 4 (by decide) (hts (.fieldLink R_BlockDeskModel 46 "BlockDeskModel" "begin" "I") (by decide +kernel)) (fun _ h9 => h9) rfl d_BlockDeskModel_state_74 ?_
            have hP9 := hP.sub (ws' := [(b0, .inr (1, [.int (nI N), .int up, .int ch, .int wr, .int (nI bg), .int (nI en), .ref b1, .int (nI hs), .ref b2, .int (nI ss), .ref b3, .ref b4, .int (nI rc)]))]) [0] rfl
            have hD9 := hD.sub (ws' := [(b0, .inr (1, [.int (nI N), .int up, .int ch, .int wr, .int (nI bg), .int (nI en), .ref b1, .int (nI hs), .ref b2, .int (nI ss), .ref b3, .ref b4, .int (nI rc)]))]) [0] (by decide) rfl
            have hK9 := hK.sub (tys' := []) [] rfl
            exact W.iret (v := nI bg) hx hb hr (fun t ht hW => ⟨⟨nI bg, (), rfl, (by unfold zq_stS; rw [if_neg c_1, if_neg c_19, if_neg c_31, if_neg (show ¬ nI 2 = nI 1 by decide +kernel), if_pos rfl]), by rw [ht]; exact hP9, va_K.moved hW.alike hK9, hD9⟩, hS.F ht⟩) hS.2.2 d_BlockDeskModel_state_77
          · by_cases h_3 : what = nI 3
            · subst h_3
              refine lv_tableIn (off := 41) (tgt := 78) hx hb d_BlockDeskModel_state_37 (by decide +kernel) (by decide +kernel) (by decide +kernel) (by decide) ?_
              refine lv_aload_n hx hb d_BlockDeskModel_state_78 rfl (lv_at hl 0 rfl) ?_
              refine va_get (D := (dC, dI)) (ci := 1) (v := .int (nI en)) (C := R_BlockDeskModel) (T := F_BlockDeskModel) (N := 13) hx hb hts hin1 hown hK hP 0 rfl rfl 5 (by decide) (hts (.fieldLink R_BlockDeskModel 43 "BlockDeskModel" "end" "I") (by decide +kernel)) (fun _ h9 => h9) rfl d_BlockDeskModel_state_79 ?_
              have hP9 := hP.sub (ws' := [(b0, .inr (1, [.int (nI N), .int up, .int ch, .int wr, .int (nI bg), .int (nI en), .ref b1, .int (nI hs), .ref b2, .int (nI ss), .ref b3, .ref b4, .int (nI rc)]))]) [0] rfl
              have hD9 := hD.sub (ws' := [(b0, .inr (1, [.int (nI N), .int up, .int ch, .int wr, .int (nI bg), .int (nI en), .ref b1, .int (nI hs), .ref b2, .int (nI ss), .ref b3, .ref b4, .int (nI rc)]))]) [0] (by decide) rfl
              have hK9 := hK.sub (tys' := []) [] rfl
              exact W.iret (v := nI en) hx hb hr (fun t ht hW => ⟨⟨nI en, (), rfl, (by unfold zq_stS; rw [if_neg c_1, if_neg c_19, if_neg c_31, if_neg (show ¬ nI 3 = nI 1 by decide +kernel), if_neg (show ¬ nI 3 = nI 2 by decide +kernel), if_pos rfl]), by rw [ht]; exact hP9, va_K.moved hW.alike hK9, hD9⟩, hS.F ht⟩) hS.2.2 d_BlockDeskModel_state_82
            · by_cases h_4 : what = nI 4
              · subst h_4
                refine lv_tableIn (off := 46) (tgt := 83) hx hb d_BlockDeskModel_state_37 (by decide +kernel) (by decide +kernel) (by decide +kernel) (by decide) ?_
                refine lv_aload_n hx hb d_BlockDeskModel_state_83 rfl (lv_at hl 0 rfl) ?_
                refine va_get (D := (dC, dI)) (ci := 1) (v := .int (nI hs)) (C := R_BlockDeskModel) (T := F_BlockDeskModel) (N := 13) hx hb hts hin1 hown hK hP 0 rfl rfl 7 (by decide) (hts (.fieldLink R_BlockDeskModel 33 "BlockDeskModel" "inHand" "I") (by decide +kernel)) (fun _ h9 => h9) rfl d_BlockDeskModel_state_84 ?_
                have hP9 := hP.sub (ws' := [(b0, .inr (1, [.int (nI N), .int up, .int ch, .int wr, .int (nI bg), .int (nI en), .ref b1, .int (nI hs), .ref b2, .int (nI ss), .ref b3, .ref b4, .int (nI rc)]))]) [0] rfl
                have hD9 := hD.sub (ws' := [(b0, .inr (1, [.int (nI N), .int up, .int ch, .int wr, .int (nI bg), .int (nI en), .ref b1, .int (nI hs), .ref b2, .int (nI ss), .ref b3, .ref b4, .int (nI rc)]))]) [0] (by decide) rfl
                have hK9 := hK.sub (tys' := []) [] rfl
                exact W.iret (v := nI hs) hx hb hr (fun t ht hW => ⟨⟨nI hs, (), rfl, (by unfold zq_stS; rw [if_neg c_1, if_neg c_19, if_neg c_31, if_neg (show ¬ nI 4 = nI 1 by decide +kernel), if_neg (show ¬ nI 4 = nI 2 by decide +kernel), if_neg (show ¬ nI 4 = nI 3 by decide +kernel), if_pos rfl]), by rw [ht]; exact hP9, va_K.moved hW.alike hK9, hD9⟩, hS.F ht⟩) hS.2.2 d_BlockDeskModel_state_87
              · have t_1 := lv_neT h_1 (show (nI 1).toInt = 1 by decide +kernel)
                have t_2 := lv_neT h_2 (show (nI 2).toInt = 2 by decide +kernel)
                have t_3 := lv_neT h_3 (show (nI 3).toInt = 3 by decide +kernel)
                have t_4 := lv_neT h_4 (show (nI 4).toInt = 4 by decide +kernel)
                refine lv_tableOut (tgt := 88) hx hb d_BlockDeskModel_state_37 (by omega) (by decide) ?_
                refine lv_iconst (v := (-1)) hx hb d_BlockDeskModel_state_88 (by decide +kernel) ?_
                have hP9 := hP.sub (ws' := [(b0, .inr (1, [.int (nI N), .int up, .int ch, .int wr, .int (nI bg), .int (nI en), .ref b1, .int (nI hs), .ref b2, .int (nI ss), .ref b3, .ref b4, .int (nI rc)]))]) [0] rfl
                have hD9 := hD.sub (ws' := [(b0, .inr (1, [.int (nI N), .int up, .int ch, .int wr, .int (nI bg), .int (nI en), .ref b1, .int (nI hs), .ref b2, .int (nI ss), .ref b3, .ref b4, .int (nI rc)]))]) [0] (by decide) rfl
                have hK9 := hK.sub (tys' := []) [] rfl
                exact W.iret (v := (-1)) hx hb hr (fun t ht hW => ⟨⟨(-1), (), rfl, (by unfold zq_stS; rw [if_neg c_1, if_neg c_19, if_neg c_31, if_neg h_1, if_neg h_2, if_neg h_3, if_neg h_4]), by rw [ht]; exact hP9, va_K.moved hW.alike hK9, hD9⟩, hS.F ht⟩) hS.2.2 d_BlockDeskModel_state_89
      · refine lv_iconst (v := (-1)) hx hb d_BlockDeskModel_state_34 (by decide +kernel) ?_
        have hP9 := hP.sub (ws' := [(b0, .inr (1, [.int (nI N), .int up, .int ch, .int wr, .int (nI bg), .int (nI en), .ref b1, .int (nI hs), .ref b2, .int (nI ss), .ref b3, .ref b4, .int (nI rc)]))]) [0] rfl
        have hD9 := hD.sub (ws' := [(b0, .inr (1, [.int (nI N), .int up, .int ch, .int wr, .int (nI bg), .int (nI en), .ref b1, .int (nI hs), .ref b2, .int (nI ss), .ref b3, .ref b4, .int (nI rc)]))]) [0] (by decide) rfl
        have hK9 := hK.sub (tys' := []) [] rfl
        exact W.iret (v := (-1)) hx hb hr (fun t ht hW => ⟨⟨(-1), (), rfl, (by unfold zq_stS; rw [if_neg c_1, if_neg c_19, if_pos c_31]), by rw [ht]; exact hP9, va_K.moved hW.alike hK9, hD9⟩, hS.F ht⟩) hS.2.2 d_BlockDeskModel_state_35
    · refine lv_aload_n hx hb d_BlockDeskModel_state_22 rfl (lv_at hl 0 rfl) ?_
      refine va_get (D := (dC, dI)) (ci := 1) (v := .int wr) (C := R_BlockDeskModel) (T := F_BlockDeskModel) (N := 13) hx hb hts hin1 hown hK hP 0 rfl rfl 3 (by decide) (hts (.fieldLink R_BlockDeskModel 40 "BlockDeskModel" "written" "I") (by decide +kernel)) (fun _ h9 => h9) rfl d_BlockDeskModel_state_23 ?_
      have hP9 := hP.sub (ws' := [(b0, .inr (1, [.int (nI N), .int up, .int ch, .int wr, .int (nI bg), .int (nI en), .ref b1, .int (nI hs), .ref b2, .int (nI ss), .ref b3, .ref b4, .int (nI rc)]))]) [0] rfl
      have hD9 := hD.sub (ws' := [(b0, .inr (1, [.int (nI N), .int up, .int ch, .int wr, .int (nI bg), .int (nI en), .ref b1, .int (nI hs), .ref b2, .int (nI ss), .ref b3, .ref b4, .int (nI rc)]))]) [0] (by decide) rfl
      have hK9 := hK.sub (tys' := []) [] rfl
      exact W.iret (v := wr) hx hb hr (fun t ht hW => ⟨⟨wr, (), rfl, (by unfold zq_stS; rw [if_neg c_1, if_pos c_19]), by rw [ht]; exact hP9, va_K.moved hW.alike hK9, hD9⟩, hS.F ht⟩) hS.2.2 d_BlockDeskModel_state_26
  · refine lv_aload_n hx hb d_BlockDeskModel_state_4 rfl (lv_at hl 0 rfl) ?_
    refine va_get (D := (dC, dI)) (ci := 1) (v := .int up) (C := R_BlockDeskModel) (T := F_BlockDeskModel) (N := 13) hx hb hts hin1 hown hK hP 0 rfl rfl 1 (by decide) (hts (.fieldLink R_BlockDeskModel 7 "BlockDeskModel" "up" "Z") (by decide +kernel)) (fun _ h9 => h9) rfl d_BlockDeskModel_state_5 ?_
    refine lv_if_eq (tgt := 15) hx hb d_BlockDeskModel_state_8 (by decide) (fun c_8 => ?_) (fun c_8 => ?_)
    · refine lv_iconst (v := nI 0) hx hb d_BlockDeskModel_state_15 (by decide +kernel) ?_
      have hP9 := hP.sub (ws' := [(b0, .inr (1, [.int (nI N), .int up, .int ch, .int wr, .int (nI bg), .int (nI en), .ref b1, .int (nI hs), .ref b2, .int (nI ss), .ref b3, .ref b4, .int (nI rc)]))]) [0] rfl
      have hD9 := hD.sub (ws' := [(b0, .inr (1, [.int (nI N), .int up, .int ch, .int wr, .int (nI bg), .int (nI en), .ref b1, .int (nI hs), .ref b2, .int (nI ss), .ref b3, .ref b4, .int (nI rc)]))]) [0] (by decide) rfl
      have hK9 := hK.sub (tys' := []) [] rfl
      exact W.iret (v := nI 0) hx hb hr (fun t ht hW => ⟨⟨nI 0, (), rfl, (by unfold zq_stS; rw [if_pos c_1, if_pos c_8]), by rw [ht]; exact hP9, va_K.moved hW.alike hK9, hD9⟩, hS.F ht⟩) hS.2.2 d_BlockDeskModel_state_16
    · refine lv_iconst (v := nI 1) hx hb d_BlockDeskModel_state_11 (by decide +kernel) ?_
      refine lv_goto (tgt := 16) hx hb d_BlockDeskModel_state_12 (by decide) ?_
      have hP9 := hP.sub (ws' := [(b0, .inr (1, [.int (nI N), .int up, .int ch, .int wr, .int (nI bg), .int (nI en), .ref b1, .int (nI hs), .ref b2, .int (nI ss), .ref b3, .ref b4, .int (nI rc)]))]) [0] rfl
      have hD9 := hD.sub (ws' := [(b0, .inr (1, [.int (nI N), .int up, .int ch, .int wr, .int (nI bg), .int (nI en), .ref b1, .int (nI hs), .ref b2, .int (nI ss), .ref b3, .ref b4, .int (nI rc)]))]) [0] (by decide) rfl
      have hK9 := hK.sub (tys' := []) [] rfl
      exact W.iret (v := nI 1) hx hb hr (fun t ht hW => ⟨⟨nI 1, (), rfl, (by unfold zq_stS; rw [if_pos c_1, if_neg c_8]), by rw [ht]; exact hP9, va_K.moved hW.alike hK9, hD9⟩, hS.F ht⟩) hS.2.2 d_BlockDeskModel_state_16
