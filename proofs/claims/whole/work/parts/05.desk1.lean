set_option maxHeartbeats 4000000 in
set_option maxRecDepth 100000 in
theorem c_BlockDesk_handTakes (l : Launch) (dC : Nat → ClassId) (dI : Nat → Nat → Nat) (sz : Nat) (a0 : Nat) (a1 : Nat) (a2 : Nat) (a3 : Nat) (a4 : Nat) (rc : Nat) (bg : Nat) (ss : Nat) (hs : Nat) (up : Int32) (ch : Int32) (wr : Int32) (n : Int32) (hhs : hs ≤ 8000) : Met l y_BlockDesk_handTakes w_BlockDesk_handTakes ({ frames := 0, cells := 0, slots := 0, locals := 0 }) (va_Pc [.ref a0, .int n] (fun U => U.heap.size = sz ∧ va_P (dC, dI) classes [(a0, .inr (0, [.ref a1, .ref a2, .int (nI rc), .int (nI bg), .ref a3, .int (nI ss), .ref a4, .int (nI hs), .int up, .int ch, .int wr]))] U.heap ∧ va_K (dC, dI) classes [] U ∧ va_D (fun _ => True) [(a0, .inr (0, [.ref a1, .ref a2, .int (nI rc), .int (nI bg), .ref a3, .int (nI ss), .ref a4, .int (nI hs), .int up, .int ch, .int wr]))])) (va_Qi (fun (r : Int32) (_ : Unit) => (r = nI 1 ∧ ¬ up = 0 ∧ n.toInt + (hs : Int) ≤ 8000) ∨ (r = nI 0 ∧ (up = 0 ∨ 8000 < n.toInt + (hs : Int)))) (fun (_ : Unit) (t : State) => va_P (dC, dI) classes [(a0, .inr (0, [.ref a1, .ref a2, .int (nI rc), .int (nI bg), .ref a3, .int (nI ss), .ref a4, .int (nI hs), .int up, .int ch, .int wr]))] t.heap ∧ va_K (dC, dI) classes [] t ∧ va_D (va_A [(a0, .inr (0, [.ref a1, .ref a2, .int (nI rc), .int (nI bg), .ref a3, .int (nI ss), .ref a4, .int (nI hs), .int up, .int ch, .int wr]))] sz) [(a0, .inr (0, [.ref a1, .ref a2, .int (nI rc), .int (nI bg), .ref a3, .int (nI ss), .ref a4, .int (nI hs), .int up, .int ch, .int wr]))]) (va_A [(a0, .inr (0, [.ref a1, .ref a2, .int (nI rc), .int (nI bg), .ref a3, .int (nI ss), .ref a4, .int (nI hs), .int up, .int ch, .int wr]))] sz)) 0 0 (va_A [(a0, .inr (0, [.ref a1, .ref a2, .int (nI rc), .int (nI bg), .ref a3, .int (nI ss), .ref a4, .int (nI hs), .int up, .int ch, .int wr]))] sz) := by
  refine Met.ofW (cc := b_BlockDesk_handTakes) (maxL := 2) (ret := (some .boolean)) (by decide) rfl ?_
  intro p e s m args below meth c s₁ B hml hv
  obtain ⟨rfl, hsz, hP, hK, hD0⟩ := hv
  have hx := B.exec
  have hb := B.bytes
  have hr := B.returns
  have hts := atoms_spec (ws := w_BlockDesk_handTakes) B.pre
  have hown : s.vm.findClass R_BlockDesk = some m.cls := findClass_of_methodNamed B.named
  have hlocks := B.notSynchronized
  subst hsz
  have hD := hD0.self (sz := s.heap.size)
  generalize hAe : va_A [(a0, .inr (0, [.ref a1, .ref a2, .int (nI rc), .int (nI bg), .ref a3, .int (nI ss), .ref a4, .int (nI hs), .int up, .int ch, .int wr]))] s.heap.size = A at hD ⊢
  have hA : ∀ q : Nat, s.heap.size ≤ q → A q := fun q h => by rw [← hAe]; exact Or.inr h
  have hS : va_S A s.heap s.heap [] := va_S.rf
  have hP : va_P (dC, dI) classes [(a0, .inr (0, [.ref a1, .ref a2, .int (nI rc), .int (nI bg), .ref a3, .int (nI ss), .ref a4, .int (nI hs), .int up, .int ch, .int wr]))] s.heap := hP
  have hin0 : ∀ w ∈ u_ws R_BlockDesk F_BlockDesk 11, w ∈ w_BlockDesk_handTakes := by decide +kernel
  have hl := lv_entry ([.ref a0, .int n]) (n := 2) (Nat.le_of_ble_eq_true rfl)
  rw [lg_entry_eq]
  generalize (lg_sl ([.ref a0, .int n]) ++ List.replicate (2 - (lg_sl ([.ref a0, .int n])).length) Slot.unset).toArray = ls at hl ⊢
  have hl : lv_has ls 2 [(0, .ref a0), (1, .int n)] := hl
  refine lv_aload_n hx hb d_BlockDesk_handTakes_0 rfl (lv_at hl 0 rfl) ?_
  refine va_get (D := (dC, dI)) (ci := 0) (v := .int up) (C := R_BlockDesk) (T := F_BlockDesk) (N := 11) hx hb hts hin0 hown hK hP 0 rfl rfl 8 (by decide) (hts (.fieldLink R_BlockDesk 23 "BlockDesk" "up" "Z") (by decide +kernel)) (fun _ h9 => h9) rfl d_BlockDesk_handTakes_1 ?_
  refine lv_if_eq (tgt := 23) hx hb d_BlockDesk_handTakes_4 (by decide) (fun c_4 => ?_) (fun c_4 => ?_)
  · refine lv_iconst (v := nI 0) hx hb d_BlockDesk_handTakes_23 (by decide +kernel) ?_
    have hP9 := hP.sub (ws' := [(a0, .inr (0, [.ref a1, .ref a2, .int (nI rc), .int (nI bg), .ref a3, .int (nI ss), .ref a4, .int (nI hs), .int up, .int ch, .int wr]))]) [0] rfl
    have hD9 := hD.sub (ws' := [(a0, .inr (0, [.ref a1, .ref a2, .int (nI rc), .int (nI bg), .ref a3, .int (nI ss), .ref a4, .int (nI hs), .int up, .int ch, .int wr]))]) [0] (by decide) rfl
    have hK9 := hK.sub (tys' := []) [] rfl
    exact W.zret (v := nI 0) hx hb hr zq_nb0 (fun t ht hW => ⟨⟨nI 0, (), rfl, Or.inr ⟨rfl, by first | exact Or.inl c_4 | exact Or.inr (by omega)⟩, by rw [ht]; exact hP9, va_K.moved hW.alike hK9, hD9⟩, hS.F ht⟩) hS.2.2 d_BlockDesk_handTakes_24
  · refine lv_iload_n hx hb d_BlockDesk_handTakes_7 rfl (lv_at hl 1 rfl) ?_
    refine lv_sipush (v := nI 8000) hx hb d_BlockDesk_handTakes_8 (by decide +kernel) ?_
    refine lv_aload_n hx hb d_BlockDesk_handTakes_11 rfl (lv_at hl 0 rfl) ?_
    refine va_get (D := (dC, dI)) (ci := 0) (v := .int (nI hs)) (C := R_BlockDesk) (T := F_BlockDesk) (N := 11) hx hb hts hin0 hown hK hP 0 rfl rfl 7 (by decide) (hts (.fieldLink R_BlockDesk 35 "BlockDesk" "handSize" "I") (by decide +kernel)) (fun _ h9 => h9) rfl d_BlockDesk_handTakes_12 ?_
    refine lv_isub hx hb d_BlockDesk_handTakes_15 ?_
    refine xq_top (nI (8000 - hs)) (pk_sub (by omega)) ?_
    refine lv_icmp_gt (tgt := 23) hx hb d_BlockDesk_handTakes_16 (by decide) (fun c_16 => ?_) (fun c_16 => ?_)
    · have c_16 : ((8000 - hs : Nat) : Int) < n.toInt := (xq_lt_l (by omega)).mp c_16
      refine lv_iconst (v := nI 0) hx hb d_BlockDesk_handTakes_23 (by decide +kernel) ?_
      have hP9 := hP.sub (ws' := [(a0, .inr (0, [.ref a1, .ref a2, .int (nI rc), .int (nI bg), .ref a3, .int (nI ss), .ref a4, .int (nI hs), .int up, .int ch, .int wr]))]) [0] rfl
      have hD9 := hD.sub (ws' := [(a0, .inr (0, [.ref a1, .ref a2, .int (nI rc), .int (nI bg), .ref a3, .int (nI ss), .ref a4, .int (nI hs), .int up, .int ch, .int wr]))]) [0] (by decide) rfl
      have hK9 := hK.sub (tys' := []) [] rfl
      exact W.zret (v := nI 0) hx hb hr zq_nb0 (fun t ht hW => ⟨⟨nI 0, (), rfl, Or.inr ⟨rfl, by first | exact Or.inl c_4 | exact Or.inr (by omega)⟩, by rw [ht]; exact hP9, va_K.moved hW.alike hK9, hD9⟩, hS.F ht⟩) hS.2.2 d_BlockDesk_handTakes_24
    · have c_16 : ¬ (((8000 - hs : Nat) : Int) < n.toInt) := fun h9 => c_16 ((xq_lt_l (by omega)).mpr h9)
      refine lv_iconst (v := nI 1) hx hb d_BlockDesk_handTakes_19 (by decide +kernel) ?_
      refine lv_goto (tgt := 24) hx hb d_BlockDesk_handTakes_20 (by decide) ?_
      have hP9 := hP.sub (ws' := [(a0, .inr (0, [.ref a1, .ref a2, .int (nI rc), .int (nI bg), .ref a3, .int (nI ss), .ref a4, .int (nI hs), .int up, .int ch, .int wr]))]) [0] rfl
      have hD9 := hD.sub (ws' := [(a0, .inr (0, [.ref a1, .ref a2, .int (nI rc), .int (nI bg), .ref a3, .int (nI ss), .ref a4, .int (nI hs), .int up, .int ch, .int wr]))]) [0] (by decide) rfl
      have hK9 := hK.sub (tys' := []) [] rfl
      exact W.zret (v := nI 1) hx hb hr zq_nb1 (fun t ht hW => ⟨⟨nI 1, (), rfl, Or.inl ⟨rfl, c_4, by omega⟩, by rw [ht]; exact hP9, va_K.moved hW.alike hK9, hD9⟩, hS.F ht⟩) hS.2.2 d_BlockDesk_handTakes_24
set_option maxHeartbeats 4000000 in
set_option maxRecDepth 100000 in
theorem c_BlockDesk_losePower (l : Launch) (dC : Nat → ClassId) (dI : Nat → Nat → Nat) (sz : Nat) (a0 : Nat) (a1 : Nat) (a2 : Nat) (a3 : Nat) (a4 : Nat) (rc : Nat) (bg : Nat) (ss : Nat) (hs : Nat) (up : Int32) (ch : Int32) (wr : Int32)  : Met l y_BlockDesk_losePower w_BlockDesk_losePower ({ frames := 0, cells := 0, slots := 0, locals := 0 }) (va_Pc [.ref a0] (fun U => U.heap.size = sz ∧ va_P (dC, dI) classes [(a0, .inr (0, [.ref a1, .ref a2, .int (nI rc), .int (nI bg), .ref a3, .int (nI ss), .ref a4, .int (nI hs), .int up, .int ch, .int wr]))] U.heap ∧ va_K (dC, dI) classes [] U ∧ va_D (fun _ => True) [(a0, .inr (0, [.ref a1, .ref a2, .int (nI rc), .int (nI bg), .ref a3, .int (nI ss), .ref a4, .int (nI hs), .int up, .int ch, .int wr]))])) (va_Qv (fun (_ : Unit) => True) (fun (_ : Unit) (t : State) => va_P (dC, dI) classes [(a0, .inr (0, [.ref a1, .ref a2, .int (nI rc), .int (nI bg), .ref a3, .int (nI ss), .ref a4, .int (nI 0), .int (nI 0), .int (-1), .int wr]))] t.heap ∧ va_K (dC, dI) classes [] t ∧ va_D (va_A [(a0, .inr (0, [.ref a1, .ref a2, .int (nI rc), .int (nI bg), .ref a3, .int (nI ss), .ref a4, .int (nI hs), .int up, .int ch, .int wr]))] sz) [(a0, .inr (0, [.ref a1, .ref a2, .int (nI rc), .int (nI bg), .ref a3, .int (nI ss), .ref a4, .int (nI 0), .int (nI 0), .int (-1), .int wr]))]) (va_A [(a0, .inr (0, [.ref a1, .ref a2, .int (nI rc), .int (nI bg), .ref a3, .int (nI ss), .ref a4, .int (nI hs), .int up, .int ch, .int wr]))] sz)) 0 0 (va_A [(a0, .inr (0, [.ref a1, .ref a2, .int (nI rc), .int (nI bg), .ref a3, .int (nI ss), .ref a4, .int (nI hs), .int up, .int ch, .int wr]))] sz) := by
  refine Met.ofW (cc := b_BlockDesk_losePower) (maxL := 1) (ret := none) (by decide) rfl ?_
  intro p e s m args below meth c s₁ B hml hv
  obtain ⟨rfl, hsz, hP, hK, hD0⟩ := hv
  have hx := B.exec
  have hb := B.bytes
  have hr := B.returns
  have hts := atoms_spec (ws := w_BlockDesk_losePower) B.pre
  have hown : s.vm.findClass R_BlockDesk = some m.cls := findClass_of_methodNamed B.named
  have hlocks := B.notSynchronized
  subst hsz
  have hD := hD0.self (sz := s.heap.size)
  generalize hAe : va_A [(a0, .inr (0, [.ref a1, .ref a2, .int (nI rc), .int (nI bg), .ref a3, .int (nI ss), .ref a4, .int (nI hs), .int up, .int ch, .int wr]))] s.heap.size = A at hD ⊢
  have hA : ∀ q : Nat, s.heap.size ≤ q → A q := fun q h => by rw [← hAe]; exact Or.inr h
  have hS : va_S A s.heap s.heap [] := va_S.rf
  have hP : va_P (dC, dI) classes [(a0, .inr (0, [.ref a1, .ref a2, .int (nI rc), .int (nI bg), .ref a3, .int (nI ss), .ref a4, .int (nI hs), .int up, .int ch, .int wr]))] s.heap := hP
  have hin0 : ∀ w ∈ u_ws R_BlockDesk F_BlockDesk 11, w ∈ w_BlockDesk_losePower := by decide +kernel
  have hl := lv_entry ([.ref a0]) (n := 1) (Nat.le_of_ble_eq_true rfl)
  rw [lg_entry_eq]
  generalize (lg_sl ([.ref a0]) ++ List.replicate (1 - (lg_sl ([.ref a0])).length) Slot.unset).toArray = ls at hl ⊢
  have hl : lv_has ls 1 [(0, .ref a0)] := hl
  refine lv_aload_n hx hb d_BlockDesk_losePower_0 rfl (lv_at hl 0 rfl) ?_
  refine lv_iconst (v := nI 0) hx hb d_BlockDesk_losePower_1 (by decide +kernel) ?_
  refine va_put (D := (dC, dI)) (ci := 0) (v := .int (nI 0)) (ty := .boolean) (C := R_BlockDesk) (T := F_BlockDesk) (N := 11) hx hb hts hin0 t_BlockDesk t_BlockDesk_ok n_BlockDesk hown hK hP hD hS 0 rfl rfl 8 (by decide) (hts (.fieldLink R_BlockDesk 23 "BlockDesk" "up" "Z") (by decide +kernel)) (fun _ h9 => h9) rfl (by decide +kernel) zq_nb0 zq_fb0 (Nat.le_of_ble_eq_true rfl) d_BlockDesk_losePower_2 (fun H locs hP hD hS => ?_)
  have hP : va_P (dC, dI) classes [(a0, .inr (0, [.ref a1, .ref a2, .int (nI rc), .int (nI bg), .ref a3, .int (nI ss), .ref a4, .int (nI hs), .int (nI 0), .int ch, .int wr]))] H := hP
  have hD : va_D A [(a0, .inr (0, [.ref a1, .ref a2, .int (nI rc), .int (nI bg), .ref a3, .int (nI ss), .ref a4, .int (nI hs), .int (nI 0), .int ch, .int wr]))] := hD
  refine lv_aload_n hx hb d_BlockDesk_losePower_5 rfl (lv_at hl 0 rfl) ?_
  refine lv_iconst (v := nI 0) hx hb d_BlockDesk_losePower_6 (by decide +kernel) ?_
  refine va_put (D := (dC, dI)) (ci := 0) (v := .int (nI 0)) (ty := .int) (C := R_BlockDesk) (T := F_BlockDesk) (N := 11) hx hb hts hin0 t_BlockDesk t_BlockDesk_ok n_BlockDesk hown hK hP hD hS 0 rfl rfl 7 (by decide) (hts (.fieldLink R_BlockDesk 35 "BlockDesk" "handSize" "I") (by decide +kernel)) (fun _ h9 => h9) rfl (by decide +kernel) rfl rfl (Nat.le_of_ble_eq_true rfl) d_BlockDesk_losePower_7 (fun H locs hP hD hS => ?_)
  have hP : va_P (dC, dI) classes [(a0, .inr (0, [.ref a1, .ref a2, .int (nI rc), .int (nI bg), .ref a3, .int (nI ss), .ref a4, .int (nI 0), .int (nI 0), .int ch, .int wr]))] H := hP
  have hD : va_D A [(a0, .inr (0, [.ref a1, .ref a2, .int (nI rc), .int (nI bg), .ref a3, .int (nI ss), .ref a4, .int (nI 0), .int (nI 0), .int ch, .int wr]))] := hD
  refine lv_aload_n hx hb d_BlockDesk_losePower_10 rfl (lv_at hl 0 rfl) ?_
  refine lv_iconst (v := (-1)) hx hb d_BlockDesk_losePower_11 (by decide +kernel) ?_
  refine va_put (D := (dC, dI)) (ci := 0) (v := .int (-1)) (ty := .int) (C := R_BlockDesk) (T := F_BlockDesk) (N := 11) hx hb hts hin0 t_BlockDesk t_BlockDesk_ok n_BlockDesk hown hK hP hD hS 0 rfl rfl 9 (by decide) (hts (.fieldLink R_BlockDesk 27 "BlockDesk" "charge" "I") (by decide +kernel)) (fun _ h9 => h9) rfl (by decide +kernel) rfl rfl (Nat.le_of_ble_eq_true rfl) d_BlockDesk_losePower_12 (fun H locs hP hD hS => ?_)
  have hP : va_P (dC, dI) classes [(a0, .inr (0, [.ref a1, .ref a2, .int (nI rc), .int (nI bg), .ref a3, .int (nI ss), .ref a4, .int (nI 0), .int (nI 0), .int (-1), .int wr]))] H := hP
  have hD : va_D A [(a0, .inr (0, [.ref a1, .ref a2, .int (nI rc), .int (nI bg), .ref a3, .int (nI ss), .ref a4, .int (nI 0), .int (nI 0), .int (-1), .int wr]))] := hD
  have hP9 := hP.sub (ws' := [(a0, .inr (0, [.ref a1, .ref a2, .int (nI rc), .int (nI bg), .ref a3, .int (nI ss), .ref a4, .int (nI 0), .int (nI 0), .int (-1), .int wr]))]) [0] rfl
  have hD9 := hD.sub (ws' := [(a0, .inr (0, [.ref a1, .ref a2, .int (nI rc), .int (nI bg), .ref a3, .int (nI ss), .ref a4, .int (nI 0), .int (nI 0), .int (-1), .int wr]))]) [0] (by decide) rfl
  have hK9 := hK.sub (tys' := []) [] rfl
  exact W.vret hx hb hr (fun t ht hW => ⟨⟨(), rfl, trivial, by rw [ht]; exact hP9, va_K.moved hW.alike hK9, hD9⟩, hS.F ht⟩) hS.2.2 d_BlockDesk_losePower_15
set_option maxHeartbeats 4000000 in
set_option maxRecDepth 100000 in
theorem c_BlockDesk_usedPlaces (l : Launch) (dC : Nat → ClassId) (dI : Nat → Nat → Nat) (sz : Nat) (a0 : Nat) (a1 : Nat) (a2 : Nat) (a3 : Nat) (a4 : Nat) (rc : Nat) (bg : Nat) (ss : Nat) (hs : Nat) (up : Int32) (ch : Int32) (wr : Int32) (k2 : ClassId) (nS : Nat) (f2 : Nat → Int32) (hrc : rc < nS) (hnS : nS ≤ 4001) : Met l y_BlockDesk_usedPlaces w_BlockDesk_usedPlaces ({ frames := 0, cells := 0, slots := 0, locals := 0 }) (va_Pc [.ref a0] (fun U => U.heap.size = sz ∧ va_P (dC, dI) classes [(a0, .inr (0, [.ref a1, .ref a2, .int (nI rc), .int (nI bg), .ref a3, .int (nI ss), .ref a4, .int (nI hs), .int up, .int ch, .int wr])), (a2, .inl (k2, nS, .inl f2))] U.heap ∧ va_K (dC, dI) classes [(k2, .int)] U ∧ va_D (fun _ => True) [(a0, .inr (0, [.ref a1, .ref a2, .int (nI rc), .int (nI bg), .ref a3, .int (nI ss), .ref a4, .int (nI hs), .int up, .int ch, .int wr])), (a2, .inl (k2, nS, .inl f2))])) (va_Qi (fun (r : Int32) (_ : Unit) => r = f2 rc) (fun (_ : Unit) (t : State) => va_P (dC, dI) classes [(a0, .inr (0, [.ref a1, .ref a2, .int (nI rc), .int (nI bg), .ref a3, .int (nI ss), .ref a4, .int (nI hs), .int up, .int ch, .int wr])), (a2, .inl (k2, nS, .inl f2))] t.heap ∧ va_K (dC, dI) classes [(k2, .int)] t ∧ va_D (va_A [(a0, .inr (0, [.ref a1, .ref a2, .int (nI rc), .int (nI bg), .ref a3, .int (nI ss), .ref a4, .int (nI hs), .int up, .int ch, .int wr])), (a2, .inl (k2, nS, .inl f2))] sz) [(a0, .inr (0, [.ref a1, .ref a2, .int (nI rc), .int (nI bg), .ref a3, .int (nI ss), .ref a4, .int (nI hs), .int up, .int ch, .int wr])), (a2, .inl (k2, nS, .inl f2))]) (va_A [(a0, .inr (0, [.ref a1, .ref a2, .int (nI rc), .int (nI bg), .ref a3, .int (nI ss), .ref a4, .int (nI hs), .int up, .int ch, .int wr])), (a2, .inl (k2, nS, .inl f2))] sz)) 0 0 (va_A [(a0, .inr (0, [.ref a1, .ref a2, .int (nI rc), .int (nI bg), .ref a3, .int (nI ss), .ref a4, .int (nI hs), .int up, .int ch, .int wr])), (a2, .inl (k2, nS, .inl f2))] sz) := by
  refine Met.ofW (cc := b_BlockDesk_usedPlaces) (maxL := 1) (ret := (some .int)) (by decide) rfl ?_
  intro p e s m args below meth c s₁ B hml hv
  obtain ⟨rfl, hsz, hP, hK, hD0⟩ := hv
  have hx := B.exec
  have hb := B.bytes
  have hr := B.returns
  have hts := atoms_spec (ws := w_BlockDesk_usedPlaces) B.pre
  have hown : s.vm.findClass R_BlockDesk = some m.cls := findClass_of_methodNamed B.named
  have hlocks := B.notSynchronized
  subst hsz
  have hD := hD0.self (sz := s.heap.size)
  generalize hAe : va_A [(a0, .inr (0, [.ref a1, .ref a2, .int (nI rc), .int (nI bg), .ref a3, .int (nI ss), .ref a4, .int (nI hs), .int up, .int ch, .int wr])), (a2, .inl (k2, nS, .inl f2))] s.heap.size = A at hD ⊢
  have hA : ∀ q : Nat, s.heap.size ≤ q → A q := fun q h => by rw [← hAe]; exact Or.inr h
  have hS : va_S A s.heap s.heap [] := va_S.rf
  have hP : va_P (dC, dI) classes [(a0, .inr (0, [.ref a1, .ref a2, .int (nI rc), .int (nI bg), .ref a3, .int (nI ss), .ref a4, .int (nI hs), .int up, .int ch, .int wr])), (a2, .inl (k2, nS, .inl f2))] s.heap := hP
  have hin0 : ∀ w ∈ u_ws R_BlockDesk F_BlockDesk 11, w ∈ w_BlockDesk_usedPlaces := by decide +kernel
  have hl := lv_entry ([.ref a0]) (n := 1) (Nat.le_of_ble_eq_true rfl)
  rw [lg_entry_eq]
  generalize (lg_sl ([.ref a0]) ++ List.replicate (1 - (lg_sl ([.ref a0])).length) Slot.unset).toArray = ls at hl ⊢
  have hl : lv_has ls 1 [(0, .ref a0)] := hl
  refine lv_aload_n hx hb d_BlockDesk_usedPlaces_0 rfl (lv_at hl 0 rfl) ?_
  refine va_get (D := (dC, dI)) (ci := 0) (v := .ref a2) (C := R_BlockDesk) (T := F_BlockDesk) (N := 11) hx hb hts hin0 hown hK hP 0 rfl rfl 1 (by decide) (hts (.fieldLink R_BlockDesk 13 "BlockDesk" "starts" "[I") (by decide +kernel)) (fun _ h9 => h9) rfl d_BlockDesk_usedPlaces_1 ?_
  refine lv_aload_n hx hb d_BlockDesk_usedPlaces_4 rfl (lv_at hl 0 rfl) ?_
  refine va_get (D := (dC, dI)) (ci := 0) (v := .int (nI rc)) (C := R_BlockDesk) (T := F_BlockDesk) (N := 11) hx hb hts hin0 hown hK hP 0 rfl rfl 2 (by decide) (hts (.fieldLink R_BlockDesk 57 "BlockDesk" "records" "I") (by decide +kernel)) (fun _ h9 => h9) rfl d_BlockDesk_usedPlaces_5 ?_
  refine va_iald hx hb hK hP 1 0 rfl rfl (vp_in_nI (by omega) (by omega)) d_BlockDesk_usedPlaces_8 ?_
  refine xq_top (f2 rc) (by rw [nI_clamp (by omega)]) ?_
  have hP9 := hP.sub (ws' := [(a0, .inr (0, [.ref a1, .ref a2, .int (nI rc), .int (nI bg), .ref a3, .int (nI ss), .ref a4, .int (nI hs), .int up, .int ch, .int wr])), (a2, .inl (k2, nS, .inl f2))]) [0, 1] rfl
  have hD9 := hD.sub (ws' := [(a0, .inr (0, [.ref a1, .ref a2, .int (nI rc), .int (nI bg), .ref a3, .int (nI ss), .ref a4, .int (nI hs), .int up, .int ch, .int wr])), (a2, .inl (k2, nS, .inl f2))]) [0, 1] (by decide) rfl
  have hK9 := hK.sub (tys' := [(k2, .int)]) [0] rfl
  exact W.iret (v := f2 rc) hx hb hr (fun t ht hW => ⟨⟨f2 rc, (), rfl, rfl, by rw [ht]; exact hP9, va_K.moved hW.alike hK9, hD9⟩, hS.F ht⟩) hS.2.2 d_BlockDesk_usedPlaces_9
set_option maxHeartbeats 4000000 in
set_option maxRecDepth 100000 in
theorem c_BlockDesk_blocksFor (l : Launch) (dC : Nat → ClassId) (dI : Nat → Nat → Nat) (sz : Nat) (pl : Nat) (hpl : pl ≤ 1000000) : Met l y_BlockDesk_blocksFor w_BlockDesk_blocksFor ({ frames := 0, cells := 0, slots := 0, locals := 0 }) (va_Pc [.int (nI pl)] (fun U => U.heap.size = sz ∧ va_P (dC, dI) classes [] U.heap ∧ va_K (dC, dI) classes [] U ∧ va_D (fun _ => True) [])) (va_Qi (fun (r : Int32) (_ : Unit) => r = nI ((pl + 500 - 1) / 500)) (fun (_ : Unit) (t : State) => va_P (dC, dI) classes [] t.heap ∧ va_K (dC, dI) classes [] t ∧ va_D (va_A [] sz) []) (va_A [] sz)) 0 0 (va_A [] sz) := by
  refine Met.ofW (cc := b_BlockDesk_blocksFor) (maxL := 1) (ret := (some .int)) (by decide) rfl ?_
  intro p e s m args below meth c s₁ B hml hv
  obtain ⟨rfl, hsz, hP, hK, hD0⟩ := hv
  have hx := B.exec
  have hb := B.bytes
  have hr := B.returns
  have hts := atoms_spec (ws := w_BlockDesk_blocksFor) B.pre
  have hown : s.vm.findClass R_BlockDesk = some m.cls := findClass_of_methodNamed B.named
  have hlocks := B.notSynchronized
  subst hsz
  have hD := hD0.self (sz := s.heap.size)
  generalize hAe : va_A [] s.heap.size = A at hD ⊢
  have hA : ∀ q : Nat, s.heap.size ≤ q → A q := fun q h => by rw [← hAe]; exact Or.inr h
  have hS : va_S A s.heap s.heap [] := va_S.rf
  have hP : va_P (dC, dI) classes [] s.heap := hP
  have hl := lv_entry ([.int (nI pl)]) (n := 1) (Nat.le_of_ble_eq_true rfl)
  rw [lg_entry_eq]
  generalize (lg_sl ([.int (nI pl)]) ++ List.replicate (1 - (lg_sl ([.int (nI pl)])).length) Slot.unset).toArray = ls at hl ⊢
  have hl : lv_has ls 1 [(0, .int (nI pl))] := hl
  refine lv_iload_n hx hb d_BlockDesk_blocksFor_0 rfl (lv_at hl 0 rfl) ?_
  refine lv_sipush (v := nI 500) hx hb d_BlockDesk_blocksFor_1 (by decide +kernel) ?_
  refine lv_iadd hx hb d_BlockDesk_blocksFor_4 ?_
  refine xq_top (nI (pl + 500)) (nI_add _ _) ?_
  refine lv_iconst (v := nI 1) hx hb d_BlockDesk_blocksFor_5 (by decide +kernel) ?_
  refine lv_isub hx hb d_BlockDesk_blocksFor_6 ?_
  refine xq_top (nI (pl + 500 - 1)) (pk_sub (by omega)) ?_
  refine lv_sipush (v := nI 500) hx hb d_BlockDesk_blocksFor_7 (by decide +kernel) ?_
  refine lv_idiv hx hb d_BlockDesk_blocksFor_10 (by decide +kernel) ?_
  refine xq_top (nI ((pl + 500 - 1) / 500)) (pk_div (by omega) (by omega) (by omega)) ?_
  have hP9 := hP.sub (ws' := []) [] rfl
  have hD9 := hD.sub (ws' := []) [] (by decide) rfl
  have hK9 := hK.sub (tys' := []) [] rfl
  exact W.iret (v := nI ((pl + 500 - 1) / 500)) hx hb hr (fun t ht hW => ⟨⟨nI ((pl + 500 - 1) / 500), (), rfl, rfl, by rw [ht]; exact hP9, va_K.moved hW.alike hK9, hD9⟩, hS.F ht⟩) hS.2.2 d_BlockDesk_blocksFor_11
set_option maxHeartbeats 4000000 in
set_option maxRecDepth 100000 in
theorem c_BlockDesk_takeHandAsSnapshot (l : Launch) (dC : Nat → ClassId) (dI : Nat → Nat → Nat) (sz : Nat) (a0 : Nat) (a1 : Nat) (a2 : Nat) (a3 : Nat) (a4 : Nat) (rc : Nat) (bg : Nat) (ss : Nat) (hs : Nat) (up : Int32) (ch : Int32) (wr : Int32)  : Met l y_BlockDesk_takeHandAsSnapshot w_BlockDesk_takeHandAsSnapshot ({ frames := 0, cells := 0, slots := 0, locals := 0 }) (va_Pc [.ref a0] (fun U => U.heap.size = sz ∧ va_P (dC, dI) classes [(a0, .inr (0, [.ref a1, .ref a2, .int (nI rc), .int (nI bg), .ref a3, .int (nI ss), .ref a4, .int (nI hs), .int up, .int ch, .int wr]))] U.heap ∧ va_K (dC, dI) classes [] U ∧ va_D (fun _ => True) [(a0, .inr (0, [.ref a1, .ref a2, .int (nI rc), .int (nI bg), .ref a3, .int (nI ss), .ref a4, .int (nI hs), .int up, .int ch, .int wr]))])) (va_Qv (fun (_ : Unit) => True) (fun (_ : Unit) (t : State) => va_P (dC, dI) classes [(a0, .inr (0, [.ref a1, .ref a2, .int (nI rc), .int (nI bg), .ref a4, .int (nI hs), .ref a3, .int (nI 0), .int up, .int ch, .int wr]))] t.heap ∧ va_K (dC, dI) classes [] t ∧ va_D (va_A [(a0, .inr (0, [.ref a1, .ref a2, .int (nI rc), .int (nI bg), .ref a3, .int (nI ss), .ref a4, .int (nI hs), .int up, .int ch, .int wr]))] sz) [(a0, .inr (0, [.ref a1, .ref a2, .int (nI rc), .int (nI bg), .ref a4, .int (nI hs), .ref a3, .int (nI 0), .int up, .int ch, .int wr]))]) (va_A [(a0, .inr (0, [.ref a1, .ref a2, .int (nI rc), .int (nI bg), .ref a3, .int (nI ss), .ref a4, .int (nI hs), .int up, .int ch, .int wr]))] sz)) 0 0 (va_A [(a0, .inr (0, [.ref a1, .ref a2, .int (nI rc), .int (nI bg), .ref a3, .int (nI ss), .ref a4, .int (nI hs), .int up, .int ch, .int wr]))] sz) := by
  refine Met.ofW (cc := b_BlockDesk_takeHandAsSnapshot) (maxL := 2) (ret := none) (by decide) rfl ?_
  intro p e s m args below meth c s₁ B hml hv
  obtain ⟨rfl, hsz, hP, hK, hD0⟩ := hv
  have hx := B.exec
  have hb := B.bytes
  have hr := B.returns
  have hts := atoms_spec (ws := w_BlockDesk_takeHandAsSnapshot) B.pre
  have hown : s.vm.findClass R_BlockDesk = some m.cls := findClass_of_methodNamed B.named
  have hlocks := B.notSynchronized
  subst hsz
  have hD := hD0.self (sz := s.heap.size)
  generalize hAe : va_A [(a0, .inr (0, [.ref a1, .ref a2, .int (nI rc), .int (nI bg), .ref a3, .int (nI ss), .ref a4, .int (nI hs), .int up, .int ch, .int wr]))] s.heap.size = A at hD ⊢
  have hA : ∀ q : Nat, s.heap.size ≤ q → A q := fun q h => by rw [← hAe]; exact Or.inr h
  have hS : va_S A s.heap s.heap [] := va_S.rf
  have hP : va_P (dC, dI) classes [(a0, .inr (0, [.ref a1, .ref a2, .int (nI rc), .int (nI bg), .ref a3, .int (nI ss), .ref a4, .int (nI hs), .int up, .int ch, .int wr]))] s.heap := hP
  have hin0 : ∀ w ∈ u_ws R_BlockDesk F_BlockDesk 11, w ∈ w_BlockDesk_takeHandAsSnapshot := by decide +kernel
  have hl := lv_entry ([.ref a0]) (n := 2) (Nat.le_of_ble_eq_true rfl)
  rw [lg_entry_eq]
  generalize (lg_sl ([.ref a0]) ++ List.replicate (2 - (lg_sl ([.ref a0])).length) Slot.unset).toArray = ls at hl ⊢
  have hl : lv_has ls 2 [(0, .ref a0)] := hl
  refine lv_aload_n hx hb d_BlockDesk_takeHandAsSnapshot_0 rfl (lv_at hl 0 rfl) ?_
  refine va_get (D := (dC, dI)) (ci := 0) (v := .ref a3) (C := R_BlockDesk) (T := F_BlockDesk) (N := 11) hx hb hts hin0 hown hK hP 0 rfl rfl 4 (by decide) (hts (.fieldLink R_BlockDesk 17 "BlockDesk" "snapshotBytes" "[B") (by decide +kernel)) (fun _ h9 => h9) rfl d_BlockDesk_takeHandAsSnapshot_1 ?_
  refine lv_astore_n (lv' := [(1, .ref a3), (0, .ref a0)]) hx hb d_BlockDesk_takeHandAsSnapshot_4 rfl hl (by decide) rfl (fun ls hl => ?_)
  refine lv_aload_n hx hb d_BlockDesk_takeHandAsSnapshot_5 rfl (lv_at hl 1 rfl) ?_
  refine lv_aload_n hx hb d_BlockDesk_takeHandAsSnapshot_6 rfl (lv_at hl 1 rfl) ?_
  refine va_get (D := (dC, dI)) (ci := 0) (v := .ref a4) (C := R_BlockDesk) (T := F_BlockDesk) (N := 11) hx hb hts hin0 hown hK hP 0 rfl rfl 6 (by decide) (hts (.fieldLink R_BlockDesk 20 "BlockDesk" "handBytes" "[B") (by decide +kernel)) (fun _ h9 => h9) rfl d_BlockDesk_takeHandAsSnapshot_7 ?_
  refine va_put (D := (dC, dI)) (ci := 0) (v := .ref a4) (ty := (.array .byte)) (C := R_BlockDesk) (T := F_BlockDesk) (N := 11) hx hb hts hin0 t_BlockDesk t_BlockDesk_ok n_BlockDesk hown hK hP hD hS 0 rfl rfl 4 (by decide) (hts (.fieldLink R_BlockDesk 17 "BlockDesk" "snapshotBytes" "[B") (by decide +kernel)) (fun _ h9 => h9) rfl (by decide +kernel) rfl rfl (Nat.le_of_ble_eq_true rfl) d_BlockDesk_takeHandAsSnapshot_10 (fun H locs hP hD hS => ?_)
  have hP : va_P (dC, dI) classes [(a0, .inr (0, [.ref a1, .ref a2, .int (nI rc), .int (nI bg), .ref a4, .int (nI ss), .ref a4, .int (nI hs), .int up, .int ch, .int wr]))] H := hP
  have hD : va_D A [(a0, .inr (0, [.ref a1, .ref a2, .int (nI rc), .int (nI bg), .ref a4, .int (nI ss), .ref a4, .int (nI hs), .int up, .int ch, .int wr]))] := hD
  refine lv_aload_n hx hb d_BlockDesk_takeHandAsSnapshot_13 rfl (lv_at hl 1 rfl) ?_
  refine lv_aload_n hx hb d_BlockDesk_takeHandAsSnapshot_14 rfl (lv_at hl 1 rfl) ?_
  refine va_get (D := (dC, dI)) (ci := 0) (v := .int (nI hs)) (C := R_BlockDesk) (T := F_BlockDesk) (N := 11) hx hb hts hin0 hown hK hP 0 rfl rfl 7 (by decide) (hts (.fieldLink R_BlockDesk 35 "BlockDesk" "handSize" "I") (by decide +kernel)) (fun _ h9 => h9) rfl d_BlockDesk_takeHandAsSnapshot_15 ?_
  refine va_put (D := (dC, dI)) (ci := 0) (v := .int (nI hs)) (ty := .int) (C := R_BlockDesk) (T := F_BlockDesk) (N := 11) hx hb hts hin0 t_BlockDesk t_BlockDesk_ok n_BlockDesk hown hK hP hD hS 0 rfl rfl 5 (by decide) (hts (.fieldLink R_BlockDesk 73 "BlockDesk" "snapshotSize" "I") (by decide +kernel)) (fun _ h9 => h9) rfl (by decide +kernel) rfl rfl (Nat.le_of_ble_eq_true rfl) d_BlockDesk_takeHandAsSnapshot_18 (fun H locs hP hD hS => ?_)
  have hP : va_P (dC, dI) classes [(a0, .inr (0, [.ref a1, .ref a2, .int (nI rc), .int (nI bg), .ref a4, .int (nI hs), .ref a4, .int (nI hs), .int up, .int ch, .int wr]))] H := hP
  have hD : va_D A [(a0, .inr (0, [.ref a1, .ref a2, .int (nI rc), .int (nI bg), .ref a4, .int (nI hs), .ref a4, .int (nI hs), .int up, .int ch, .int wr]))] := hD
  refine lv_aload_n hx hb d_BlockDesk_takeHandAsSnapshot_21 rfl (lv_at hl 1 rfl) ?_
  refine lv_aload_n hx hb d_BlockDesk_takeHandAsSnapshot_22 rfl (lv_at hl 0 rfl) ?_
  refine va_put (D := (dC, dI)) (ci := 0) (v := .ref a3) (ty := (.array .byte)) (C := R_BlockDesk) (T := F_BlockDesk) (N := 11) hx hb hts hin0 t_BlockDesk t_BlockDesk_ok n_BlockDesk hown hK hP hD hS 0 rfl rfl 6 (by decide) (hts (.fieldLink R_BlockDesk 20 "BlockDesk" "handBytes" "[B") (by decide +kernel)) (fun _ h9 => h9) rfl (by decide +kernel) rfl rfl (Nat.le_of_ble_eq_true rfl) d_BlockDesk_takeHandAsSnapshot_23 (fun H locs hP hD hS => ?_)
  have hP : va_P (dC, dI) classes [(a0, .inr (0, [.ref a1, .ref a2, .int (nI rc), .int (nI bg), .ref a4, .int (nI hs), .ref a3, .int (nI hs), .int up, .int ch, .int wr]))] H := hP
  have hD : va_D A [(a0, .inr (0, [.ref a1, .ref a2, .int (nI rc), .int (nI bg), .ref a4, .int (nI hs), .ref a3, .int (nI hs), .int up, .int ch, .int wr]))] := hD
  refine lv_aload_n hx hb d_BlockDesk_takeHandAsSnapshot_26 rfl (lv_at hl 1 rfl) ?_
  refine lv_iconst (v := nI 0) hx hb d_BlockDesk_takeHandAsSnapshot_27 (by decide +kernel) ?_
  refine va_put (D := (dC, dI)) (ci := 0) (v := .int (nI 0)) (ty := .int) (C := R_BlockDesk) (T := F_BlockDesk) (N := 11) hx hb hts hin0 t_BlockDesk t_BlockDesk_ok n_BlockDesk hown hK hP hD hS 0 rfl rfl 7 (by decide) (hts (.fieldLink R_BlockDesk 35 "BlockDesk" "handSize" "I") (by decide +kernel)) (fun _ h9 => h9) rfl (by decide +kernel) rfl rfl (Nat.le_of_ble_eq_true rfl) d_BlockDesk_takeHandAsSnapshot_28 (fun H locs hP hD hS => ?_)
  have hP : va_P (dC, dI) classes [(a0, .inr (0, [.ref a1, .ref a2, .int (nI rc), .int (nI bg), .ref a4, .int (nI hs), .ref a3, .int (nI 0), .int up, .int ch, .int wr]))] H := hP
  have hD : va_D A [(a0, .inr (0, [.ref a1, .ref a2, .int (nI rc), .int (nI bg), .ref a4, .int (nI hs), .ref a3, .int (nI 0), .int up, .int ch, .int wr]))] := hD
  have hP9 := hP.sub (ws' := [(a0, .inr (0, [.ref a1, .ref a2, .int (nI rc), .int (nI bg), .ref a4, .int (nI hs), .ref a3, .int (nI 0), .int up, .int ch, .int wr]))]) [0] rfl
  have hD9 := hD.sub (ws' := [(a0, .inr (0, [.ref a1, .ref a2, .int (nI rc), .int (nI bg), .ref a4, .int (nI hs), .ref a3, .int (nI 0), .int up, .int ch, .int wr]))]) [0] (by decide) rfl
  have hK9 := hK.sub (tys' := []) [] rfl
  exact W.vret hx hb hr (fun t ht hW => ⟨⟨(), rfl, trivial, by rw [ht]; exact hP9, va_K.moved hW.alike hK9, hD9⟩, hS.F ht⟩) hS.2.2 d_BlockDesk_takeHandAsSnapshot_31
set_option maxHeartbeats 4000000 in
set_option maxRecDepth 100000 in
theorem c_BlockDesk_writeBlocks (l : Launch) (dC : Nat → ClassId) (dI : Nat → Nat → Nat) (sz : Nat) (a0 : Nat) (a1 : Nat) (a2 : Nat) (a3 : Nat) (a4 : Nat) (rc : Nat) (bg : Nat) (ss : Nat) (hs : Nat) (up : Int32) (ch : Int32) (wr : Int32) (n : Int32)  : Met l y_BlockDesk_writeBlocks w_BlockDesk_writeBlocks ({ frames := 1, cells := 0, slots := 0, locals := 22 }) (va_Pc [.ref a0, .int n] (fun U => U.heap.size = sz ∧ va_P (dC, dI) classes [(a0, .inr (0, [.ref a1, .ref a2, .int (nI rc), .int (nI bg), .ref a3, .int (nI ss), .ref a4, .int (nI hs), .int up, .int ch, .int wr]))] U.heap ∧ va_K (dC, dI) classes [] U ∧ va_D (fun _ => True) [(a0, .inr (0, [.ref a1, .ref a2, .int (nI rc), .int (nI bg), .ref a3, .int (nI ss), .ref a4, .int (nI hs), .int up, .int ch, .int wr]))])) (va_Qi (fun (r : Int32) (u : Int32 × Nat × Int32 × Int32) => (r, u) = zq_wb up hs ch wr n) (fun (u : Int32 × Nat × Int32 × Int32) (t : State) => match u with | (up', hs', ch', wr') => va_P (dC, dI) classes [(a0, .inr (0, [.ref a1, .ref a2, .int (nI rc), .int (nI bg), .ref a3, .int (nI ss), .ref a4, .int (nI hs'), .int up', .int ch', .int wr']))] t.heap ∧ va_K (dC, dI) classes [] t ∧ va_D (va_A [(a0, .inr (0, [.ref a1, .ref a2, .int (nI rc), .int (nI bg), .ref a3, .int (nI ss), .ref a4, .int (nI hs), .int up, .int ch, .int wr]))] sz) [(a0, .inr (0, [.ref a1, .ref a2, .int (nI rc), .int (nI bg), .ref a3, .int (nI ss), .ref a4, .int (nI hs'), .int up', .int ch', .int wr']))]) (va_A [(a0, .inr (0, [.ref a1, .ref a2, .int (nI rc), .int (nI bg), .ref a3, .int (nI ss), .ref a4, .int (nI hs), .int up, .int ch, .int wr]))] sz)) 0 0 (va_A [(a0, .inr (0, [.ref a1, .ref a2, .int (nI rc), .int (nI bg), .ref a3, .int (nI ss), .ref a4, .int (nI hs), .int up, .int ch, .int wr]))] sz) := by
  refine Met.ofW (cc := b_BlockDesk_writeBlocks) (maxL := 2) (ret := (some .boolean)) (by decide) rfl ?_
  intro p e s m args below meth c s₁ B hml hv
  obtain ⟨rfl, hsz, hP, hK, hD0⟩ := hv
  have hx := B.exec
  have hb := B.bytes
  have hr := B.returns
  have hts := atoms_spec (ws := w_BlockDesk_writeBlocks) B.pre
  have hown : s.vm.findClass R_BlockDesk = some m.cls := findClass_of_methodNamed B.named
  have hlocks := B.notSynchronized
  subst hsz
  have hD := hD0.self (sz := s.heap.size)
  generalize hAe : va_A [(a0, .inr (0, [.ref a1, .ref a2, .int (nI rc), .int (nI bg), .ref a3, .int (nI ss), .ref a4, .int (nI hs), .int up, .int ch, .int wr]))] s.heap.size = A at hD ⊢
  have hA : ∀ q : Nat, s.heap.size ≤ q → A q := fun q h => by rw [← hAe]; exact Or.inr h
  have hS : va_S A s.heap s.heap [] := va_S.rf
  have hP : va_P (dC, dI) classes [(a0, .inr (0, [.ref a1, .ref a2, .int (nI rc), .int (nI bg), .ref a3, .int (nI ss), .ref a4, .int (nI hs), .int up, .int ch, .int wr]))] s.heap := hP
  have hin0 : ∀ w ∈ u_ws R_BlockDesk F_BlockDesk 11, w ∈ w_BlockDesk_writeBlocks := by decide +kernel
  have hl := lv_entry ([.ref a0, .int n]) (n := 2) (Nat.le_of_ble_eq_true rfl)
  rw [lg_entry_eq]
  generalize (lg_sl ([.ref a0, .int n]) ++ List.replicate (2 - (lg_sl ([.ref a0, .int n])).length) Slot.unset).toArray = ls at hl ⊢
  have hl : lv_has ls 2 [(0, .ref a0), (1, .int n)] := hl
  refine lv_aload_n hx hb d_BlockDesk_writeBlocks_0 rfl (lv_at hl 0 rfl) ?_
  refine va_get (D := (dC, dI)) (ci := 0) (v := .int ch) (C := R_BlockDesk) (T := F_BlockDesk) (N := 11) hx hb hts hin0 hown hK hP 0 rfl rfl 9 (by decide) (hts (.fieldLink R_BlockDesk 27 "BlockDesk" "charge" "I") (by decide +kernel)) (fun _ h9 => h9) rfl d_BlockDesk_writeBlocks_1 ?_
  refine lv_iconst (v := (-1)) hx hb d_BlockDesk_writeBlocks_4 (by decide +kernel) ?_
  refine lv_icmp_ne (tgt := 20) hx hb d_BlockDesk_writeBlocks_5 (by decide) (fun c_5 => ?_) (fun c_5 => ?_)
  · refine lv_iload_n hx hb d_BlockDesk_writeBlocks_20 rfl (lv_at hl 1 rfl) ?_
    refine lv_aload_n hx hb d_BlockDesk_writeBlocks_21 rfl (lv_at hl 0 rfl) ?_
    refine va_get (D := (dC, dI)) (ci := 0) (v := .int ch) (C := R_BlockDesk) (T := F_BlockDesk) (N := 11) hx hb hts hin0 hown hK hP 0 rfl rfl 9 (by decide) (hts (.fieldLink R_BlockDesk 27 "BlockDesk" "charge" "I") (by decide +kernel)) (fun _ h9 => h9) rfl d_BlockDesk_writeBlocks_22 ?_
    refine lv_icmp_gt (tgt := 50) hx hb d_BlockDesk_writeBlocks_25 (by decide) (fun c_25 => ?_) (fun c_25 => ?_)
    · have c_25 : ch.toInt < n.toInt := xq_lt.mp c_25
      refine lv_aload_n hx hb d_BlockDesk_writeBlocks_50 rfl (lv_at hl 0 rfl) ?_
      refine lv_dup hx hb d_BlockDesk_writeBlocks_51 rfl ?_
      refine va_get (D := (dC, dI)) (ci := 0) (v := .int wr) (C := R_BlockDesk) (T := F_BlockDesk) (N := 11) hx hb hts hin0 hown hK hP 0 rfl rfl 10 (by decide) (hts (.fieldLink R_BlockDesk 79 "BlockDesk" "written" "I") (by decide +kernel)) (fun _ h9 => h9) rfl d_BlockDesk_writeBlocks_52 ?_
      refine lv_aload_n hx hb d_BlockDesk_writeBlocks_55 rfl (lv_at hl 0 rfl) ?_
      refine va_get (D := (dC, dI)) (ci := 0) (v := .int ch) (C := R_BlockDesk) (T := F_BlockDesk) (N := 11) hx hb hts hin0 hown hK hP 0 rfl rfl 9 (by decide) (hts (.fieldLink R_BlockDesk 27 "BlockDesk" "charge" "I") (by decide +kernel)) (fun _ h9 => h9) rfl d_BlockDesk_writeBlocks_56 ?_
      refine lv_iadd hx hb d_BlockDesk_writeBlocks_59 ?_
      refine va_put (D := (dC, dI)) (ci := 0) (v := .int (wr + ch)) (ty := .int) (C := R_BlockDesk) (T := F_BlockDesk) (N := 11) hx hb hts hin0 t_BlockDesk t_BlockDesk_ok n_BlockDesk hown hK hP hD hS 0 rfl rfl 10 (by decide) (hts (.fieldLink R_BlockDesk 79 "BlockDesk" "written" "I") (by decide +kernel)) (fun _ h9 => h9) rfl (by decide +kernel) rfl rfl (Nat.le_of_ble_eq_true rfl) d_BlockDesk_writeBlocks_60 (fun H locs hP hD hS => ?_)
      have hP : va_P (dC, dI) classes [(a0, .inr (0, [.ref a1, .ref a2, .int (nI rc), .int (nI bg), .ref a3, .int (nI ss), .ref a4, .int (nI hs), .int up, .int ch, .int (wr + ch)]))] H := hP
      have hD : va_D A [(a0, .inr (0, [.ref a1, .ref a2, .int (nI rc), .int (nI bg), .ref a3, .int (nI ss), .ref a4, .int (nI hs), .int up, .int ch, .int (wr + ch)]))] := hD
      refine lv_aload_n hx hb d_BlockDesk_writeBlocks_63 rfl (lv_at hl 0 rfl) ?_
      have hPc := hP.sub (ws' := [(a0, .inr (0, [.ref a1, .ref a2, .int (nI rc), .int (nI bg), .ref a3, .int (nI ss), .ref a4, .int (nI hs), .int up, .int ch, .int (wr + ch)]))]) [0] rfl
      have hDc := hD.sub (ws' := [(a0, .inr (0, [.ref a1, .ref a2, .int (nI rc), .int (nI bg), .ref a3, .int (nI ss), .ref a4, .int (nI hs), .int up, .int ch, .int (wr + ch)]))]) [0] (by decide) rfl
      have hKc := hK.sub (tys' := []) [] rfl
      have hFc := va_free (wc := [(a0, .inr (0, [.ref a1, .ref a2, .int (nI rc), .int (nI bg), .ref a3, .int (nI ss), .ref a4, .int (nI hs), .int up, .int ch, .int (wr + ch)]))]) hD hS hA [0] rfl
      refine va_callv (va_runV (As := []) (rest := []) ⟨hx, hb, hml, hown, hts⟩ (c_BlockDesk_losePower l dC dI H.size a0 a1 a2 a3 a4 rc bg ss hs up ch (wr + ch) ) (cwV 0 hts g_BlockDesk_writeBlocks_BlockDesk_losePower rfl rfl rfl (by decide +kernel) ⟨Nat.le_of_ble_eq_true rfl, Nat.le_of_ble_eq_true rfl⟩) ⟨fun a U g mk q => by obtain ⟨q0, q1, qP, qK, qD⟩ := q; exact ⟨q0, q1, qP, va_K.moved (u := U) (U := U.calling g mk a) (Vm.Alike.refl U.vm) qK, qD⟩, va_recv hKc hPc (ci := 0) (q0 := 0) rfl rfl, fun U hU hW => ⟨rfl, by rw [hU], by rw [hU]; exact hPc, va_K.moved hW.alike hKc, hDc.weaken (fun _ _ _ _ => trivial)⟩⟩ rfl rfl hl.1 rfl (lv_room (Nat.le_of_ble_eq_true rfl)) d_BlockDesk_writeBlocks_64 ⟨(Nat.zero_le _), (Nat.zero_le _)⟩) hS (fun q _ h => hFc q h) hFc (fun u t H1 locs ht hvm hw hB hz1 hk1 hS => ?_)
      obtain ⟨hP1, hK1, hD1⟩ := hB
      rw [ht] at hP1
      try dsimp only at hw
      obtain ⟨hP, hD⟩ := va_join (wr := []) (w1 := [(a0, .inr (0, [.ref a1, .ref a2, .int (nI rc), .int (nI bg), .ref a3, .int (nI ss), .ref a4, .int (nI 0), .int (nI 0), .int (-1), .int (wr + ch)]))]) hP hD [0] [] rfl rfl (by decide) (by decide) hk1 hFc hP1 hD1
      generalize H1 = H at hP hS ⊢
      have hP : va_P (dC, dI) classes [(a0, .inr (0, [.ref a1, .ref a2, .int (nI rc), .int (nI bg), .ref a3, .int (nI ss), .ref a4, .int (nI 0), .int (nI 0), .int (-1), .int (wr + ch)]))] H := hP
      have hD : va_D A [(a0, .inr (0, [.ref a1, .ref a2, .int (nI rc), .int (nI bg), .ref a3, .int (nI ss), .ref a4, .int (nI 0), .int (nI 0), .int (-1), .int (wr + ch)]))] := hD
      refine lv_iconst (v := nI 0) hx hb d_BlockDesk_writeBlocks_67 (by decide +kernel) ?_
      have hP9 := hP.sub (ws' := [(a0, .inr (0, [.ref a1, .ref a2, .int (nI rc), .int (nI bg), .ref a3, .int (nI ss), .ref a4, .int (nI 0), .int (nI 0), .int (-1), .int (wr + ch)]))]) [0] rfl
      have hD9 := hD.sub (ws' := [(a0, .inr (0, [.ref a1, .ref a2, .int (nI rc), .int (nI bg), .ref a3, .int (nI ss), .ref a4, .int (nI 0), .int (nI 0), .int (-1), .int (wr + ch)]))]) [0] (by decide) rfl
      have hK9 := hK.sub (tys' := []) [] rfl
      exact W.zret (v := nI 0) hx hb hr zq_nb0 (fun t ht hW => ⟨⟨nI 0, (nI 0, 0, (-1), (wr + ch)), rfl, (zq_wb_b c_5 (xq_lt.mpr c_25)).symm, by rw [ht]; exact hP9, va_K.moved hW.alike hK9, hD9⟩, hS.F ht⟩) hS.2.2 d_BlockDesk_writeBlocks_68
    · have c_25 : ¬ (ch.toInt < n.toInt) := fun h9 => c_25 (xq_lt.mpr h9)
      refine lv_aload_n hx hb d_BlockDesk_writeBlocks_28 rfl (lv_at hl 0 rfl) ?_
      refine lv_dup hx hb d_BlockDesk_writeBlocks_29 rfl ?_
      refine va_get (D := (dC, dI)) (ci := 0) (v := .int ch) (C := R_BlockDesk) (T := F_BlockDesk) (N := 11) hx hb hts hin0 hown hK hP 0 rfl rfl 9 (by decide) (hts (.fieldLink R_BlockDesk 27 "BlockDesk" "charge" "I") (by decide +kernel)) (fun _ h9 => h9) rfl d_BlockDesk_writeBlocks_30 ?_
      refine lv_iload_n hx hb d_BlockDesk_writeBlocks_33 rfl (lv_at hl 1 rfl) ?_
      refine lv_isub hx hb d_BlockDesk_writeBlocks_34 ?_
      refine va_put (D := (dC, dI)) (ci := 0) (v := .int (ch - n)) (ty := .int) (C := R_BlockDesk) (T := F_BlockDesk) (N := 11) hx hb hts hin0 t_BlockDesk t_BlockDesk_ok n_BlockDesk hown hK hP hD hS 0 rfl rfl 9 (by decide) (hts (.fieldLink R_BlockDesk 27 "BlockDesk" "charge" "I") (by decide +kernel)) (fun _ h9 => h9) rfl (by decide +kernel) rfl rfl (Nat.le_of_ble_eq_true rfl) d_BlockDesk_writeBlocks_35 (fun H locs hP hD hS => ?_)
      have hP : va_P (dC, dI) classes [(a0, .inr (0, [.ref a1, .ref a2, .int (nI rc), .int (nI bg), .ref a3, .int (nI ss), .ref a4, .int (nI hs), .int up, .int (ch - n), .int wr]))] H := hP
      have hD : va_D A [(a0, .inr (0, [.ref a1, .ref a2, .int (nI rc), .int (nI bg), .ref a3, .int (nI ss), .ref a4, .int (nI hs), .int up, .int (ch - n), .int wr]))] := hD
      refine lv_aload_n hx hb d_BlockDesk_writeBlocks_38 rfl (lv_at hl 0 rfl) ?_
      refine lv_dup hx hb d_BlockDesk_writeBlocks_39 rfl ?_
      refine va_get (D := (dC, dI)) (ci := 0) (v := .int wr) (C := R_BlockDesk) (T := F_BlockDesk) (N := 11) hx hb hts hin0 hown hK hP 0 rfl rfl 10 (by decide) (hts (.fieldLink R_BlockDesk 79 "BlockDesk" "written" "I") (by decide +kernel)) (fun _ h9 => h9) rfl d_BlockDesk_writeBlocks_40 ?_
      refine lv_iload_n hx hb d_BlockDesk_writeBlocks_43 rfl (lv_at hl 1 rfl) ?_
      refine lv_iadd hx hb d_BlockDesk_writeBlocks_44 ?_
      refine va_put (D := (dC, dI)) (ci := 0) (v := .int (wr + n)) (ty := .int) (C := R_BlockDesk) (T := F_BlockDesk) (N := 11) hx hb hts hin0 t_BlockDesk t_BlockDesk_ok n_BlockDesk hown hK hP hD hS 0 rfl rfl 10 (by decide) (hts (.fieldLink R_BlockDesk 79 "BlockDesk" "written" "I") (by decide +kernel)) (fun _ h9 => h9) rfl (by decide +kernel) rfl rfl (Nat.le_of_ble_eq_true rfl) d_BlockDesk_writeBlocks_45 (fun H locs hP hD hS => ?_)
      have hP : va_P (dC, dI) classes [(a0, .inr (0, [.ref a1, .ref a2, .int (nI rc), .int (nI bg), .ref a3, .int (nI ss), .ref a4, .int (nI hs), .int up, .int (ch - n), .int (wr + n)]))] H := hP
      have hD : va_D A [(a0, .inr (0, [.ref a1, .ref a2, .int (nI rc), .int (nI bg), .ref a3, .int (nI ss), .ref a4, .int (nI hs), .int up, .int (ch - n), .int (wr + n)]))] := hD
      refine lv_iconst (v := nI 1) hx hb d_BlockDesk_writeBlocks_48 (by decide +kernel) ?_
      have hP9 := hP.sub (ws' := [(a0, .inr (0, [.ref a1, .ref a2, .int (nI rc), .int (nI bg), .ref a3, .int (nI ss), .ref a4, .int (nI hs), .int up, .int (ch - n), .int (wr + n)]))]) [0] rfl
      have hD9 := hD.sub (ws' := [(a0, .inr (0, [.ref a1, .ref a2, .int (nI rc), .int (nI bg), .ref a3, .int (nI ss), .ref a4, .int (nI hs), .int up, .int (ch - n), .int (wr + n)]))]) [0] (by decide) rfl
      have hK9 := hK.sub (tys' := []) [] rfl
      exact W.zret (v := nI 1) hx hb hr zq_nb1 (fun t ht hW => ⟨⟨nI 1, (up, hs, ch - n, wr + n), rfl, (zq_wb_c c_5 (fun h9 => c_25 (xq_lt.mp h9))).symm, by rw [ht]; exact hP9, va_K.moved hW.alike hK9, hD9⟩, hS.F ht⟩) hS.2.2 d_BlockDesk_writeBlocks_49
  · refine lv_aload_n hx hb d_BlockDesk_writeBlocks_8 rfl (lv_at hl 0 rfl) ?_
    refine lv_dup hx hb d_BlockDesk_writeBlocks_9 rfl ?_
    refine va_get (D := (dC, dI)) (ci := 0) (v := .int wr) (C := R_BlockDesk) (T := F_BlockDesk) (N := 11) hx hb hts hin0 hown hK hP 0 rfl rfl 10 (by decide) (hts (.fieldLink R_BlockDesk 79 "BlockDesk" "written" "I") (by decide +kernel)) (fun _ h9 => h9) rfl d_BlockDesk_writeBlocks_10 ?_
    refine lv_iload_n hx hb d_BlockDesk_writeBlocks_13 rfl (lv_at hl 1 rfl) ?_
    refine lv_iadd hx hb d_BlockDesk_writeBlocks_14 ?_
    refine va_put (D := (dC, dI)) (ci := 0) (v := .int (wr + n)) (ty := .int) (C := R_BlockDesk) (T := F_BlockDesk) (N := 11) hx hb hts hin0 t_BlockDesk t_BlockDesk_ok n_BlockDesk hown hK hP hD hS 0 rfl rfl 10 (by decide) (hts (.fieldLink R_BlockDesk 79 "BlockDesk" "written" "I") (by decide +kernel)) (fun _ h9 => h9) rfl (by decide +kernel) rfl rfl (Nat.le_of_ble_eq_true rfl) d_BlockDesk_writeBlocks_15 (fun H locs hP hD hS => ?_)
    have hP : va_P (dC, dI) classes [(a0, .inr (0, [.ref a1, .ref a2, .int (nI rc), .int (nI bg), .ref a3, .int (nI ss), .ref a4, .int (nI hs), .int up, .int ch, .int (wr + n)]))] H := hP
    have hD : va_D A [(a0, .inr (0, [.ref a1, .ref a2, .int (nI rc), .int (nI bg), .ref a3, .int (nI ss), .ref a4, .int (nI hs), .int up, .int ch, .int (wr + n)]))] := hD
    refine lv_iconst (v := nI 1) hx hb d_BlockDesk_writeBlocks_18 (by decide +kernel) ?_
    have hP9 := hP.sub (ws' := [(a0, .inr (0, [.ref a1, .ref a2, .int (nI rc), .int (nI bg), .ref a3, .int (nI ss), .ref a4, .int (nI hs), .int up, .int ch, .int (wr + n)]))]) [0] rfl
    have hD9 := hD.sub (ws' := [(a0, .inr (0, [.ref a1, .ref a2, .int (nI rc), .int (nI bg), .ref a3, .int (nI ss), .ref a4, .int (nI hs), .int up, .int ch, .int (wr + n)]))]) [0] (by decide) rfl
    have hK9 := hK.sub (tys' := []) [] rfl
    exact W.zret (v := nI 1) hx hb hr zq_nb1 (fun t ht hW => ⟨⟨nI 1, (up, hs, ch, wr + n), rfl, (zq_wb_a c_5).symm, by rw [ht]; exact hP9, va_K.moved hW.alike hK9, hD9⟩, hS.F ht⟩) hS.2.2 d_BlockDesk_writeBlocks_19
set_option maxHeartbeats 4000000 in
set_option maxRecDepth 100000 in
theorem c_BlockDesk_beginJournalAnew (l : Launch) (dC : Nat → ClassId) (dI : Nat → Nat → Nat) (sz : Nat) (a0 : Nat) (a1 : Nat) (a2 : Nat) (a3 : Nat) (a4 : Nat) (rc : Nat) (bg : Nat) (ss : Nat) (hs : Nat) (up : Int32) (ch : Int32) (wr : Int32) (k2 : ClassId) (nS : Nat) (tu : Nat) (f2 : Nat → Int32) (hrc : rc < nS) (hnS : nS ≤ 4001) (htu : f2 rc = nI tu) (htb : tu ≤ 16000) : Met l y_BlockDesk_beginJournalAnew w_BlockDesk_beginJournalAnew ({ frames := 1, cells := 0, slots := 0, locals := 22 }) (va_Pc [.ref a0] (fun U => U.heap.size = sz ∧ va_P (dC, dI) classes [(a0, .inr (0, [.ref a1, .ref a2, .int (nI rc), .int (nI bg), .ref a3, .int (nI ss), .ref a4, .int (nI hs), .int up, .int ch, .int wr])), (a2, .inl (k2, nS, .inl f2))] U.heap ∧ va_K (dC, dI) classes [(k2, .int)] U ∧ va_D (fun _ => True) [(a0, .inr (0, [.ref a1, .ref a2, .int (nI rc), .int (nI bg), .ref a3, .int (nI ss), .ref a4, .int (nI hs), .int up, .int ch, .int wr])), (a2, .inl (k2, nS, .inl f2))])) (va_Qv (fun (_ : Unit) => True) (fun (_ : Unit) (t : State) => va_P (dC, dI) classes [(a0, .inr (0, [.ref a1, .ref a2, .int (nI 0), .int (nI (bg + (tu + 500 - 1) / 500 * 500)), .ref a3, .int (nI ss), .ref a4, .int (nI hs), .int up, .int ch, .int wr])), (a2, .inl (k2, nS, .inl f2))] t.heap ∧ va_K (dC, dI) classes [(k2, .int)] t ∧ va_D (va_A [(a0, .inr (0, [.ref a1, .ref a2, .int (nI rc), .int (nI bg), .ref a3, .int (nI ss), .ref a4, .int (nI hs), .int up, .int ch, .int wr])), (a2, .inl (k2, nS, .inl f2))] sz) [(a0, .inr (0, [.ref a1, .ref a2, .int (nI 0), .int (nI (bg + (tu + 500 - 1) / 500 * 500)), .ref a3, .int (nI ss), .ref a4, .int (nI hs), .int up, .int ch, .int wr])), (a2, .inl (k2, nS, .inl f2))]) (va_A [(a0, .inr (0, [.ref a1, .ref a2, .int (nI rc), .int (nI bg), .ref a3, .int (nI ss), .ref a4, .int (nI hs), .int up, .int ch, .int wr])), (a2, .inl (k2, nS, .inl f2))] sz)) 0 0 (va_A [(a0, .inr (0, [.ref a1, .ref a2, .int (nI rc), .int (nI bg), .ref a3, .int (nI ss), .ref a4, .int (nI hs), .int up, .int ch, .int wr])), (a2, .inl (k2, nS, .inl f2))] sz) := by
  refine Met.ofW (cc := b_BlockDesk_beginJournalAnew) (maxL := 1) (ret := none) (by decide) rfl ?_
  intro p e s m args below meth c s₁ B hml hv
  obtain ⟨rfl, hsz, hP, hK, hD0⟩ := hv
  have hx := B.exec
  have hb := B.bytes
  have hr := B.returns
  have hts := atoms_spec (ws := w_BlockDesk_beginJournalAnew) B.pre
  have hown : s.vm.findClass R_BlockDesk = some m.cls := findClass_of_methodNamed B.named
  have hlocks := B.notSynchronized
  subst hsz
  have hD := hD0.self (sz := s.heap.size)
  generalize hAe : va_A [(a0, .inr (0, [.ref a1, .ref a2, .int (nI rc), .int (nI bg), .ref a3, .int (nI ss), .ref a4, .int (nI hs), .int up, .int ch, .int wr])), (a2, .inl (k2, nS, .inl f2))] s.heap.size = A at hD ⊢
  have hA : ∀ q : Nat, s.heap.size ≤ q → A q := fun q h => by rw [← hAe]; exact Or.inr h
  have hS : va_S A s.heap s.heap [] := va_S.rf
  have hP : va_P (dC, dI) classes [(a0, .inr (0, [.ref a1, .ref a2, .int (nI rc), .int (nI bg), .ref a3, .int (nI ss), .ref a4, .int (nI hs), .int up, .int ch, .int wr])), (a2, .inl (k2, nS, .inl f2))] s.heap := hP
  have hin0 : ∀ w ∈ u_ws R_BlockDesk F_BlockDesk 11, w ∈ w_BlockDesk_beginJournalAnew := by decide +kernel
  have hl := lv_entry ([.ref a0]) (n := 1) (Nat.le_of_ble_eq_true rfl)
  rw [lg_entry_eq]
  generalize (lg_sl ([.ref a0]) ++ List.replicate (1 - (lg_sl ([.ref a0])).length) Slot.unset).toArray = ls at hl ⊢
  have hl : lv_has ls 1 [(0, .ref a0)] := hl
  refine lv_aload_n hx hb d_BlockDesk_beginJournalAnew_0 rfl (lv_at hl 0 rfl) ?_
  refine lv_dup hx hb d_BlockDesk_beginJournalAnew_1 rfl ?_
  refine va_get (D := (dC, dI)) (ci := 0) (v := .int (nI bg)) (C := R_BlockDesk) (T := F_BlockDesk) (N := 11) hx hb hts hin0 hown hK hP 0 rfl rfl 3 (by decide) (hts (.fieldLink R_BlockDesk 82 "BlockDesk" "begin" "I") (by decide +kernel)) (fun _ h9 => h9) rfl d_BlockDesk_beginJournalAnew_2 ?_
  refine lv_aload_n hx hb d_BlockDesk_beginJournalAnew_5 rfl (lv_at hl 0 rfl) ?_
  have hPc := hP.sub (ws' := [(a0, .inr (0, [.ref a1, .ref a2, .int (nI rc), .int (nI bg), .ref a3, .int (nI ss), .ref a4, .int (nI hs), .int up, .int ch, .int wr])), (a2, .inl (k2, nS, .inl f2))]) [0, 1] rfl
  have hDc := hD.sub (ws' := [(a0, .inr (0, [.ref a1, .ref a2, .int (nI rc), .int (nI bg), .ref a3, .int (nI ss), .ref a4, .int (nI hs), .int up, .int ch, .int wr])), (a2, .inl (k2, nS, .inl f2))]) [0, 1] (by decide) rfl
  have hKc := hK.sub (tys' := [(k2, .int)]) [0] rfl
  have hFc := va_free (wc := [(a0, .inr (0, [.ref a1, .ref a2, .int (nI rc), .int (nI bg), .ref a3, .int (nI ss), .ref a4, .int (nI hs), .int up, .int ch, .int wr])), (a2, .inl (k2, nS, .inl f2))]) hD hS hA [0, 1] rfl
  refine va_calli (va_runV (As := []) (rest := [.int (nI bg), .ref a0]) ⟨hx, hb, hml, hown, hts⟩ (c_BlockDesk_usedPlaces l dC dI s.heap.size a0 a1 a2 a3 a4 rc bg ss hs up ch wr k2 nS f2 hrc hnS) (cwV 0 hts g_BlockDesk_beginJournalAnew_BlockDesk_usedPlaces rfl rfl rfl (by decide +kernel) ⟨Nat.le_of_ble_eq_true rfl, Nat.le_of_ble_eq_true rfl⟩) ⟨fun a U g mk q => by obtain ⟨q0, q1, qP, qK, qD⟩ := q; exact ⟨q0, q1, qP, va_K.moved (u := U) (U := U.calling g mk a) (Vm.Alike.refl U.vm) qK, qD⟩, va_recv hKc hPc (ci := 0) (q0 := 0) rfl rfl, fun U hU hW => ⟨rfl, by rw [hU], by rw [hU]; exact hPc, va_K.moved hW.alike hKc, hDc.weaken (fun _ _ _ _ => trivial)⟩⟩ rfl rfl hl.1 rfl (lv_room (Nat.le_of_ble_eq_true rfl)) d_BlockDesk_beginJournalAnew_6 ⟨(Nat.zero_le _), (Nat.zero_le _)⟩) hS (fun q _ h => hFc q h) hFc (fun r_6 u t H1 locs ht hvm hw hB hz1 hk1 hS => ?_)
  obtain ⟨hP1, hK1, hD1⟩ := hB
  rw [ht] at hP1
  try dsimp only at hw
  obtain ⟨hP, hD⟩ := va_join (wr := []) (w1 := [(a0, .inr (0, [.ref a1, .ref a2, .int (nI rc), .int (nI bg), .ref a3, .int (nI ss), .ref a4, .int (nI hs), .int up, .int ch, .int wr])), (a2, .inl (k2, nS, .inl f2))]) hP hD [0, 1] [] rfl rfl (by decide) (by decide) hk1 hFc hP1 hD1
  generalize H1 = H at hP hS ⊢
  have hP : va_P (dC, dI) classes [(a0, .inr (0, [.ref a1, .ref a2, .int (nI rc), .int (nI bg), .ref a3, .int (nI ss), .ref a4, .int (nI hs), .int up, .int ch, .int wr])), (a2, .inl (k2, nS, .inl f2))] H := hP
  have hD : va_D A [(a0, .inr (0, [.ref a1, .ref a2, .int (nI rc), .int (nI bg), .ref a3, .int (nI ss), .ref a4, .int (nI hs), .int up, .int ch, .int wr])), (a2, .inl (k2, nS, .inl f2))] := hD
  obtain rfl : r_6 = nI tu := hw.trans htu
  have hPc := hP.sub (ws' := []) [] rfl
  have hDc := hD.sub (ws' := []) [] (by decide) rfl
  have hKc := hK.sub (tys' := []) [] rfl
  have hFc := va_free (wc := []) hD hS hA [] rfl
  refine va_calli (va_runS (As := [.int (nI tu)]) (rest := [.int (nI bg), .ref a0]) ⟨hx, hb, hml, hown, hts⟩ (c_BlockDesk_blocksFor l dC dI H.size tu (by omega)) (va_cwS 1 hts g_BlockDesk_beginJournalAnew_BlockDesk_blocksFor rfl rfl rfl (by decide +kernel) ⟨Nat.le_of_ble_eq_true rfl, Nat.le_of_ble_eq_true rfl⟩) ⟨fun a U g mk q => by obtain ⟨q0, q1, qP, qK, qD⟩ := q; exact ⟨q0, q1, qP, va_K.moved (u := U) (U := U.calling g mk a) (Vm.Alike.refl U.vm) qK, qD⟩, fun U hU hW => ⟨rfl, by rw [hU], by rw [hU]; exact hPc, va_K.moved hW.alike hKc, hDc.weaken (fun _ _ _ _ => trivial)⟩⟩ rfl rfl hl.1 rfl (lv_room (Nat.le_of_ble_eq_true rfl)) d_BlockDesk_beginJournalAnew_9 ⟨(Nat.zero_le _), (Nat.zero_le _)⟩) hS (fun q _ h => hFc q h) hFc (fun r_9 u t H1 locs ht hvm hw hB hz1 hk1 hS => ?_)
  obtain ⟨hP1, hK1, hD1⟩ := hB
  rw [ht] at hP1
  try dsimp only at hw
  obtain ⟨hP, hD⟩ := va_join (wr := [(a0, .inr (0, [.ref a1, .ref a2, .int (nI rc), .int (nI bg), .ref a3, .int (nI ss), .ref a4, .int (nI hs), .int up, .int ch, .int wr])), (a2, .inl (k2, nS, .inl f2))]) (w1 := []) hP hD [] [0, 1] rfl rfl (by decide) (by decide) hk1 hFc hP1 hD1
  generalize H1 = H at hP hS ⊢
  have hP : va_P (dC, dI) classes [(a0, .inr (0, [.ref a1, .ref a2, .int (nI rc), .int (nI bg), .ref a3, .int (nI ss), .ref a4, .int (nI hs), .int up, .int ch, .int wr])), (a2, .inl (k2, nS, .inl f2))] H := hP
  have hD : va_D A [(a0, .inr (0, [.ref a1, .ref a2, .int (nI rc), .int (nI bg), .ref a3, .int (nI ss), .ref a4, .int (nI hs), .int up, .int ch, .int wr])), (a2, .inl (k2, nS, .inl f2))] := hD
  obtain rfl : r_9 = nI ((tu + 500 - 1) / 500) := hw
  refine lv_sipush (v := nI 500) hx hb d_BlockDesk_beginJournalAnew_12 (by decide +kernel) ?_
  refine lv_imul hx hb d_BlockDesk_beginJournalAnew_15 ?_
  refine xq_top (nI (((tu + 500 - 1) / 500) * 500)) (pk_mul _ _) ?_
  refine lv_iadd hx hb d_BlockDesk_beginJournalAnew_16 ?_
  refine xq_top (nI (bg + (((tu + 500 - 1) / 500) * 500))) (nI_add _ _) ?_
  refine va_put (D := (dC, dI)) (ci := 0) (v := .int (nI (bg + (((tu + 500 - 1) / 500) * 500)))) (ty := .int) (C := R_BlockDesk) (T := F_BlockDesk) (N := 11) hx hb hts hin0 t_BlockDesk t_BlockDesk_ok n_BlockDesk hown hK hP hD hS 0 rfl rfl 3 (by decide) (hts (.fieldLink R_BlockDesk 82 "BlockDesk" "begin" "I") (by decide +kernel)) (fun _ h9 => h9) rfl (by decide +kernel) rfl rfl (Nat.le_of_ble_eq_true rfl) d_BlockDesk_beginJournalAnew_17 (fun H locs hP hD hS => ?_)
  have hP : va_P (dC, dI) classes [(a0, .inr (0, [.ref a1, .ref a2, .int (nI rc), .int (nI (bg + (((tu + 500 - 1) / 500) * 500))), .ref a3, .int (nI ss), .ref a4, .int (nI hs), .int up, .int ch, .int wr])), (a2, .inl (k2, nS, .inl f2))] H := hP
  have hD : va_D A [(a0, .inr (0, [.ref a1, .ref a2, .int (nI rc), .int (nI (bg + (((tu + 500 - 1) / 500) * 500))), .ref a3, .int (nI ss), .ref a4, .int (nI hs), .int up, .int ch, .int wr])), (a2, .inl (k2, nS, .inl f2))] := hD
  refine lv_aload_n hx hb d_BlockDesk_beginJournalAnew_20 rfl (lv_at hl 0 rfl) ?_
  refine lv_iconst (v := nI 0) hx hb d_BlockDesk_beginJournalAnew_21 (by decide +kernel) ?_
  refine va_put (D := (dC, dI)) (ci := 0) (v := .int (nI 0)) (ty := .int) (C := R_BlockDesk) (T := F_BlockDesk) (N := 11) hx hb hts hin0 t_BlockDesk t_BlockDesk_ok n_BlockDesk hown hK hP hD hS 0 rfl rfl 2 (by decide) (hts (.fieldLink R_BlockDesk 57 "BlockDesk" "records" "I") (by decide +kernel)) (fun _ h9 => h9) rfl (by decide +kernel) rfl rfl (Nat.le_of_ble_eq_true rfl) d_BlockDesk_beginJournalAnew_22 (fun H locs hP hD hS => ?_)
  have hP : va_P (dC, dI) classes [(a0, .inr (0, [.ref a1, .ref a2, .int (nI 0), .int (nI (bg + (((tu + 500 - 1) / 500) * 500))), .ref a3, .int (nI ss), .ref a4, .int (nI hs), .int up, .int ch, .int wr])), (a2, .inl (k2, nS, .inl f2))] H := hP
  have hD : va_D A [(a0, .inr (0, [.ref a1, .ref a2, .int (nI 0), .int (nI (bg + (((tu + 500 - 1) / 500) * 500))), .ref a3, .int (nI ss), .ref a4, .int (nI hs), .int up, .int ch, .int wr])), (a2, .inl (k2, nS, .inl f2))] := hD
  have hP9 := hP.sub (ws' := [(a0, .inr (0, [.ref a1, .ref a2, .int (nI 0), .int (nI (bg + (((tu + 500 - 1) / 500) * 500))), .ref a3, .int (nI ss), .ref a4, .int (nI hs), .int up, .int ch, .int wr])), (a2, .inl (k2, nS, .inl f2))]) [0, 1] rfl
  have hD9 := hD.sub (ws' := [(a0, .inr (0, [.ref a1, .ref a2, .int (nI 0), .int (nI (bg + (((tu + 500 - 1) / 500) * 500))), .ref a3, .int (nI ss), .ref a4, .int (nI hs), .int up, .int ch, .int wr])), (a2, .inl (k2, nS, .inl f2))]) [0, 1] (by decide) rfl
  have hK9 := hK.sub (tys' := [(k2, .int)]) [0] rfl
  exact W.vret hx hb hr (fun t ht hW => ⟨⟨(), rfl, trivial, by rw [ht]; exact hP9, va_K.moved hW.alike hK9, hD9⟩, hS.F ht⟩) hS.2.2 d_BlockDesk_beginJournalAnew_25
