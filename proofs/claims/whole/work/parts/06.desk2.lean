set_option maxHeartbeats 4000000 in
set_option maxRecDepth 100000 in
theorem c_BlockDesk_cut (l : Launch) (dC : Nat → ClassId) (dI : Nat → Nat → Nat) (sz : Nat) (a0 : Nat) (a1 : Nat) (a2 : Nat) (a3 : Nat) (a4 : Nat) (rc : Nat) (bg : Nat) (ss : Nat) (hs : Nat) (up : Int32) (ch : Int32) (wr : Int32)  : Met l y_BlockDesk_cut w_BlockDesk_cut ({ frames := 1, cells := 0, slots := 0, locals := 22 }) (va_Pc [.ref a0] (fun U => U.heap.size = sz ∧ va_P (dC, dI) classes [(a0, .inr (0, [.ref a1, .ref a2, .int (nI rc), .int (nI bg), .ref a3, .int (nI ss), .ref a4, .int (nI hs), .int up, .int ch, .int wr]))] U.heap ∧ va_K (dC, dI) classes [] U ∧ va_D (fun _ => True) [(a0, .inr (0, [.ref a1, .ref a2, .int (nI rc), .int (nI bg), .ref a3, .int (nI ss), .ref a4, .int (nI hs), .int up, .int ch, .int wr]))])) (va_Qi (fun (r : Int32) (u : Int32 × Nat × Int32 × Int32) => (up = 0 ∧ r = nI 0 ∧ u = (up, hs, ch, wr)) ∨ (¬ up = 0 ∧ r = nI 1 ∧ u = (nI 0, 0, -1, wr))) (fun (u : Int32 × Nat × Int32 × Int32) (t : State) => match u with | (up', hs', ch', wr') => va_P (dC, dI) classes [(a0, .inr (0, [.ref a1, .ref a2, .int (nI rc), .int (nI bg), .ref a3, .int (nI ss), .ref a4, .int (nI hs'), .int up', .int ch', .int wr']))] t.heap ∧ va_K (dC, dI) classes [] t ∧ va_D (va_A [(a0, .inr (0, [.ref a1, .ref a2, .int (nI rc), .int (nI bg), .ref a3, .int (nI ss), .ref a4, .int (nI hs), .int up, .int ch, .int wr]))] sz) [(a0, .inr (0, [.ref a1, .ref a2, .int (nI rc), .int (nI bg), .ref a3, .int (nI ss), .ref a4, .int (nI hs'), .int up', .int ch', .int wr']))]) (va_A [(a0, .inr (0, [.ref a1, .ref a2, .int (nI rc), .int (nI bg), .ref a3, .int (nI ss), .ref a4, .int (nI hs), .int up, .int ch, .int wr]))] sz)) 0 0 (va_A [(a0, .inr (0, [.ref a1, .ref a2, .int (nI rc), .int (nI bg), .ref a3, .int (nI ss), .ref a4, .int (nI hs), .int up, .int ch, .int wr]))] sz) := by
  refine Met.ofW (cc := b_BlockDesk_cut) (maxL := 1) (ret := (some .boolean)) (by decide) rfl ?_
  intro p e s m args below meth c s₁ B hml hv
  obtain ⟨rfl, hsz, hP, hK, hD0⟩ := hv
  have hx := B.exec
  have hb := B.bytes
  have hr := B.returns
  have hts := atoms_spec (ws := w_BlockDesk_cut) B.pre
  have hown : s.vm.findClass R_BlockDesk = some m.cls := findClass_of_methodNamed B.named
  have hlocks := B.notSynchronized
  subst hsz
  have hD := hD0.self (sz := s.heap.size)
  generalize hAe : va_A [(a0, .inr (0, [.ref a1, .ref a2, .int (nI rc), .int (nI bg), .ref a3, .int (nI ss), .ref a4, .int (nI hs), .int up, .int ch, .int wr]))] s.heap.size = A at hD ⊢
  have hA : ∀ q : Nat, s.heap.size ≤ q → A q := fun q h => by rw [← hAe]; exact Or.inr h
  have hS : va_S A s.heap s.heap [] := va_S.rf
  have hP : va_P (dC, dI) classes [(a0, .inr (0, [.ref a1, .ref a2, .int (nI rc), .int (nI bg), .ref a3, .int (nI ss), .ref a4, .int (nI hs), .int up, .int ch, .int wr]))] s.heap := hP
  have hin0 : ∀ w ∈ u_ws R_BlockDesk F_BlockDesk 11, w ∈ w_BlockDesk_cut := by decide +kernel
  have hl := lv_entry ([.ref a0]) (n := 1) (Nat.le_of_ble_eq_true rfl)
  rw [lg_entry_eq]
  generalize (lg_sl ([.ref a0]) ++ List.replicate (1 - (lg_sl ([.ref a0])).length) Slot.unset).toArray = ls at hl ⊢
  have hl : lv_has ls 1 [(0, .ref a0)] := hl
  refine lv_aload_n hx hb d_BlockDesk_cut_0 rfl (lv_at hl 0 rfl) ?_
  refine va_get (D := (dC, dI)) (ci := 0) (v := .int up) (C := R_BlockDesk) (T := F_BlockDesk) (N := 11) hx hb hts hin0 hown hK hP 0 rfl rfl 8 (by decide) (hts (.fieldLink R_BlockDesk 23 "BlockDesk" "up" "Z") (by decide +kernel)) (fun _ h9 => h9) rfl d_BlockDesk_cut_1 ?_
  refine lv_if_ne (tgt := 9) hx hb d_BlockDesk_cut_4 (by decide) (fun c_4 => ?_) (fun c_4 => ?_)
  · refine lv_aload_n hx hb d_BlockDesk_cut_9 rfl (lv_at hl 0 rfl) ?_
    have hPc := hP.sub (ws' := [(a0, .inr (0, [.ref a1, .ref a2, .int (nI rc), .int (nI bg), .ref a3, .int (nI ss), .ref a4, .int (nI hs), .int up, .int ch, .int wr]))]) [0] rfl
    have hDc := hD.sub (ws' := [(a0, .inr (0, [.ref a1, .ref a2, .int (nI rc), .int (nI bg), .ref a3, .int (nI ss), .ref a4, .int (nI hs), .int up, .int ch, .int wr]))]) [0] (by decide) rfl
    have hKc := hK.sub (tys' := []) [] rfl
    have hFc := va_free (wc := [(a0, .inr (0, [.ref a1, .ref a2, .int (nI rc), .int (nI bg), .ref a3, .int (nI ss), .ref a4, .int (nI hs), .int up, .int ch, .int wr]))]) hD hS hA [0] rfl
    refine va_callv (va_runV (As := []) (rest := []) ⟨hx, hb, hml, hown, hts⟩ (c_BlockDesk_losePower l dC dI s.heap.size a0 a1 a2 a3 a4 rc bg ss hs up ch wr ) (cwV 0 hts g_BlockDesk_cut_BlockDesk_losePower rfl rfl rfl (by decide +kernel) ⟨Nat.le_of_ble_eq_true rfl, Nat.le_of_ble_eq_true rfl⟩) ⟨fun a U g mk q => by obtain ⟨q0, q1, qP, qK, qD⟩ := q; exact ⟨q0, q1, qP, va_K.moved (u := U) (U := U.calling g mk a) (Vm.Alike.refl U.vm) qK, qD⟩, va_recv hKc hPc (ci := 0) (q0 := 0) rfl rfl, fun U hU hW => ⟨rfl, by rw [hU], by rw [hU]; exact hPc, va_K.moved hW.alike hKc, hDc.weaken (fun _ _ _ _ => trivial)⟩⟩ rfl rfl hl.1 rfl (lv_room (Nat.le_of_ble_eq_true rfl)) d_BlockDesk_cut_10 ⟨(Nat.zero_le _), (Nat.zero_le _)⟩) hS (fun q _ h => hFc q h) hFc (fun u t H1 locs ht hvm hw hB hz1 hk1 hS => ?_)
    obtain ⟨hP1, hK1, hD1⟩ := hB
    rw [ht] at hP1
    try dsimp only at hw
    obtain ⟨hP, hD⟩ := va_join (wr := []) (w1 := [(a0, .inr (0, [.ref a1, .ref a2, .int (nI rc), .int (nI bg), .ref a3, .int (nI ss), .ref a4, .int (nI 0), .int (nI 0), .int (-1), .int wr]))]) hP hD [0] [] rfl rfl (by decide) (by decide) hk1 hFc hP1 hD1
    generalize H1 = H at hP hS ⊢
    have hP : va_P (dC, dI) classes [(a0, .inr (0, [.ref a1, .ref a2, .int (nI rc), .int (nI bg), .ref a3, .int (nI ss), .ref a4, .int (nI 0), .int (nI 0), .int (-1), .int wr]))] H := hP
    have hD : va_D A [(a0, .inr (0, [.ref a1, .ref a2, .int (nI rc), .int (nI bg), .ref a3, .int (nI ss), .ref a4, .int (nI 0), .int (nI 0), .int (-1), .int wr]))] := hD
    refine lv_iconst (v := nI 1) hx hb d_BlockDesk_cut_13 (by decide +kernel) ?_
    have hP9 := hP.sub (ws' := [(a0, .inr (0, [.ref a1, .ref a2, .int (nI rc), .int (nI bg), .ref a3, .int (nI ss), .ref a4, .int (nI 0), .int (nI 0), .int (-1), .int wr]))]) [0] rfl
    have hD9 := hD.sub (ws' := [(a0, .inr (0, [.ref a1, .ref a2, .int (nI rc), .int (nI bg), .ref a3, .int (nI ss), .ref a4, .int (nI 0), .int (nI 0), .int (-1), .int wr]))]) [0] (by decide) rfl
    have hK9 := hK.sub (tys' := []) [] rfl
    exact W.zret (v := nI 1) hx hb hr zq_nb1 (fun t ht hW => ⟨⟨nI 1, (nI 0, 0, (-1), wr), rfl, Or.inr ⟨c_4, rfl, rfl⟩, by rw [ht]; exact hP9, va_K.moved hW.alike hK9, hD9⟩, hS.F ht⟩) hS.2.2 d_BlockDesk_cut_14
  · refine lv_iconst (v := nI 0) hx hb d_BlockDesk_cut_7 (by decide +kernel) ?_
    have hP9 := hP.sub (ws' := [(a0, .inr (0, [.ref a1, .ref a2, .int (nI rc), .int (nI bg), .ref a3, .int (nI ss), .ref a4, .int (nI hs), .int up, .int ch, .int wr]))]) [0] rfl
    have hD9 := hD.sub (ws' := [(a0, .inr (0, [.ref a1, .ref a2, .int (nI rc), .int (nI bg), .ref a3, .int (nI ss), .ref a4, .int (nI hs), .int up, .int ch, .int wr]))]) [0] (by decide) rfl
    have hK9 := hK.sub (tys' := []) [] rfl
    exact W.zret (v := nI 0) hx hb hr zq_nb0 (fun t ht hW => ⟨⟨nI 0, (up, hs, ch, wr), rfl, Or.inl ⟨c_4, rfl, rfl⟩, by rw [ht]; exact hP9, va_K.moved hW.alike hK9, hD9⟩, hS.F ht⟩) hS.2.2 d_BlockDesk_cut_8
set_option maxHeartbeats 4000000 in
set_option maxRecDepth 100000 in
theorem c_BlockDesk_start (l : Launch) (dC : Nat → ClassId) (dI : Nat → Nat → Nat) (sz : Nat) (a0 : Nat) (a1 : Nat) (a2 : Nat) (a3 : Nat) (a4 : Nat) (rc : Nat) (bg : Nat) (ss : Nat) (hs : Nat) (up : Int32) (ch : Int32) (wr : Int32)  : Met l y_BlockDesk_start w_BlockDesk_start ({ frames := 2, cells := 0, slots := 0, locals := 46 }) (va_Pc [.ref a0] (fun U => U.heap.size = sz ∧ va_P (dC, dI) classes [(a0, .inr (0, [.ref a1, .ref a2, .int (nI rc), .int (nI bg), .ref a3, .int (nI ss), .ref a4, .int (nI hs), .int up, .int ch, .int wr]))] U.heap ∧ va_K (dC, dI) classes [] U ∧ va_D (fun _ => True) [(a0, .inr (0, [.ref a1, .ref a2, .int (nI rc), .int (nI bg), .ref a3, .int (nI ss), .ref a4, .int (nI hs), .int up, .int ch, .int wr]))])) (va_Qi (fun (r : Int32) (u : Int32 × Nat × Int32 × Int32) => (¬ up = 0 ∧ r = nI 0 ∧ u = (up, hs, ch, wr)) ∨ (up = 0 ∧ r = nI 2 ∧ (nI 0, u) = zq_wb up hs ch wr (nI 1)) ∨ (up = 0 ∧ r = nI 1 ∧ ∃ up1 : Int32, (nI 1, up1, u.2) = zq_wb up hs ch wr (nI 1) ∧ u.1 = nI 1)) (fun (u : Int32 × Nat × Int32 × Int32) (t : State) => match u with | (up', hs', ch', wr') => va_P (dC, dI) classes [(a0, .inr (0, [.ref a1, .ref a2, .int (nI rc), .int (nI bg), .ref a3, .int (nI ss), .ref a4, .int (nI hs'), .int up', .int ch', .int wr']))] t.heap ∧ va_K (dC, dI) classes [] t ∧ va_D (va_A [(a0, .inr (0, [.ref a1, .ref a2, .int (nI rc), .int (nI bg), .ref a3, .int (nI ss), .ref a4, .int (nI hs), .int up, .int ch, .int wr]))] sz) [(a0, .inr (0, [.ref a1, .ref a2, .int (nI rc), .int (nI bg), .ref a3, .int (nI ss), .ref a4, .int (nI hs'), .int up', .int ch', .int wr']))]) (va_A [(a0, .inr (0, [.ref a1, .ref a2, .int (nI rc), .int (nI bg), .ref a3, .int (nI ss), .ref a4, .int (nI hs), .int up, .int ch, .int wr]))] sz)) 0 0 (va_A [(a0, .inr (0, [.ref a1, .ref a2, .int (nI rc), .int (nI bg), .ref a3, .int (nI ss), .ref a4, .int (nI hs), .int up, .int ch, .int wr]))] sz) := by
  refine Met.ofW (cc := b_BlockDesk_start) (maxL := 1) (ret := (some .int)) (by decide) rfl ?_
  intro p e s m args below meth c s₁ B hml hv
  obtain ⟨rfl, hsz, hP, hK, hD0⟩ := hv
  have hx := B.exec
  have hb := B.bytes
  have hr := B.returns
  have hts := atoms_spec (ws := w_BlockDesk_start) B.pre
  have hown : s.vm.findClass R_BlockDesk = some m.cls := findClass_of_methodNamed B.named
  have hlocks := B.notSynchronized
  subst hsz
  have hD := hD0.self (sz := s.heap.size)
  generalize hAe : va_A [(a0, .inr (0, [.ref a1, .ref a2, .int (nI rc), .int (nI bg), .ref a3, .int (nI ss), .ref a4, .int (nI hs), .int up, .int ch, .int wr]))] s.heap.size = A at hD ⊢
  have hA : ∀ q : Nat, s.heap.size ≤ q → A q := fun q h => by rw [← hAe]; exact Or.inr h
  have hS : va_S A s.heap s.heap [] := va_S.rf
  have hP : va_P (dC, dI) classes [(a0, .inr (0, [.ref a1, .ref a2, .int (nI rc), .int (nI bg), .ref a3, .int (nI ss), .ref a4, .int (nI hs), .int up, .int ch, .int wr]))] s.heap := hP
  have hin0 : ∀ w ∈ u_ws R_BlockDesk F_BlockDesk 11, w ∈ w_BlockDesk_start := by decide +kernel
  have hl := lv_entry ([.ref a0]) (n := 1) (Nat.le_of_ble_eq_true rfl)
  rw [lg_entry_eq]
  generalize (lg_sl ([.ref a0]) ++ List.replicate (1 - (lg_sl ([.ref a0])).length) Slot.unset).toArray = ls at hl ⊢
  have hl : lv_has ls 1 [(0, .ref a0)] := hl
  refine lv_aload_n hx hb d_BlockDesk_start_0 rfl (lv_at hl 0 rfl) ?_
  refine va_get (D := (dC, dI)) (ci := 0) (v := .int up) (C := R_BlockDesk) (T := F_BlockDesk) (N := 11) hx hb hts hin0 hown hK hP 0 rfl rfl 8 (by decide) (hts (.fieldLink R_BlockDesk 23 "BlockDesk" "up" "Z") (by decide +kernel)) (fun _ h9 => h9) rfl d_BlockDesk_start_1 ?_
  refine lv_if_eq (tgt := 9) hx hb d_BlockDesk_start_4 (by decide) (fun c_4 => ?_) (fun c_4 => ?_)
  · refine lv_aload_n hx hb d_BlockDesk_start_9 rfl (lv_at hl 0 rfl) ?_
    refine lv_iconst (v := nI 1) hx hb d_BlockDesk_start_10 (by decide +kernel) ?_
    have hPc := hP.sub (ws' := [(a0, .inr (0, [.ref a1, .ref a2, .int (nI rc), .int (nI bg), .ref a3, .int (nI ss), .ref a4, .int (nI hs), .int up, .int ch, .int wr]))]) [0] rfl
    have hDc := hD.sub (ws' := [(a0, .inr (0, [.ref a1, .ref a2, .int (nI rc), .int (nI bg), .ref a3, .int (nI ss), .ref a4, .int (nI hs), .int up, .int ch, .int wr]))]) [0] (by decide) rfl
    have hKc := hK.sub (tys' := []) [] rfl
    have hFc := va_free (wc := [(a0, .inr (0, [.ref a1, .ref a2, .int (nI rc), .int (nI bg), .ref a3, .int (nI ss), .ref a4, .int (nI hs), .int up, .int ch, .int wr]))]) hD hS hA [0] rfl
    refine va_calli (va_runV (As := [.int (nI 1)]) (rest := []) ⟨hx, hb, hml, hown, hts⟩ (c_BlockDesk_writeBlocks l dC dI s.heap.size a0 a1 a2 a3 a4 rc bg ss hs up ch wr (nI 1) ) (cwV 1 hts g_BlockDesk_start_BlockDesk_writeBlocks rfl rfl rfl (by decide +kernel) ⟨Nat.le_of_ble_eq_true rfl, Nat.le_of_ble_eq_true rfl⟩) ⟨fun a U g mk q => by obtain ⟨q0, q1, qP, qK, qD⟩ := q; exact ⟨q0, q1, qP, va_K.moved (u := U) (U := U.calling g mk a) (Vm.Alike.refl U.vm) qK, qD⟩, va_recv hKc hPc (ci := 0) (q0 := 0) rfl rfl, fun U hU hW => ⟨rfl, by rw [hU], by rw [hU]; exact hPc, va_K.moved hW.alike hKc, hDc.weaken (fun _ _ _ _ => trivial)⟩⟩ rfl rfl hl.1 rfl (lv_room (Nat.le_of_ble_eq_true rfl)) d_BlockDesk_start_11 ⟨(Nat.zero_le _), (Nat.zero_le _)⟩) hS (fun q _ h => hFc q h) hFc (fun r_11 u t H1 locs ht hvm hw hB hz1 hk1 hS => ?_)
    obtain ⟨up1, hs1, ch1, wr1⟩ := u
    obtain ⟨hP1, hK1, hD1⟩ := hB
    rw [ht] at hP1
    try dsimp only at hw
    obtain ⟨hP, hD⟩ := va_join (wr := []) (w1 := [(a0, .inr (0, [.ref a1, .ref a2, .int (nI rc), .int (nI bg), .ref a3, .int (nI ss), .ref a4, .int (nI hs1), .int up1, .int ch1, .int wr1]))]) hP hD [0] [] rfl rfl (by decide) (by decide) hk1 hFc hP1 hD1
    generalize H1 = H at hP hS ⊢
    have hP : va_P (dC, dI) classes [(a0, .inr (0, [.ref a1, .ref a2, .int (nI rc), .int (nI bg), .ref a3, .int (nI ss), .ref a4, .int (nI hs1), .int up1, .int ch1, .int wr1]))] H := hP
    have hD : va_D A [(a0, .inr (0, [.ref a1, .ref a2, .int (nI rc), .int (nI bg), .ref a3, .int (nI ss), .ref a4, .int (nI hs1), .int up1, .int ch1, .int wr1]))] := hD
    rcases zq_wb_split hw with ⟨rfl, hw⟩ | ⟨rfl, hw⟩
    · have h8 : True := trivial
      refine lv_if_ne (tgt := 19) hx hb d_BlockDesk_start_14 (by decide) (fun c_14 => ?_) (fun c_14 => ?_)
      · exact absurd rfl c_14
      · refine lv_iconst (v := nI 2) hx hb d_BlockDesk_start_17 (by decide +kernel) ?_
        have hP9 := hP.sub (ws' := [(a0, .inr (0, [.ref a1, .ref a2, .int (nI rc), .int (nI bg), .ref a3, .int (nI ss), .ref a4, .int (nI hs1), .int up1, .int ch1, .int wr1]))]) [0] rfl
        have hD9 := hD.sub (ws' := [(a0, .inr (0, [.ref a1, .ref a2, .int (nI rc), .int (nI bg), .ref a3, .int (nI ss), .ref a4, .int (nI hs1), .int up1, .int ch1, .int wr1]))]) [0] (by decide) rfl
        have hK9 := hK.sub (tys' := []) [] rfl
        exact W.iret (v := nI 2) hx hb hr (fun t ht hW => ⟨⟨nI 2, (up1, hs1, ch1, wr1), rfl, Or.inr (Or.inl ⟨c_4, rfl, hw⟩), by rw [ht]; exact hP9, va_K.moved hW.alike hK9, hD9⟩, hS.F ht⟩) hS.2.2 d_BlockDesk_start_18
    · have h8 : True := trivial
      refine lv_if_ne (tgt := 19) hx hb d_BlockDesk_start_14 (by decide) (fun c_14 => ?_) (fun c_14 => ?_)
      · refine lv_aload_n hx hb d_BlockDesk_start_19 rfl (lv_at hl 0 rfl) ?_
        refine lv_iconst (v := nI 1) hx hb d_BlockDesk_start_20 (by decide +kernel) ?_
        refine va_put (D := (dC, dI)) (ci := 0) (v := .int (nI 1)) (ty := .boolean) (C := R_BlockDesk) (T := F_BlockDesk) (N := 11) hx hb hts hin0 t_BlockDesk t_BlockDesk_ok n_BlockDesk hown hK hP hD hS 0 rfl rfl 8 (by decide) (hts (.fieldLink R_BlockDesk 23 "BlockDesk" "up" "Z") (by decide +kernel)) (fun _ h9 => h9) rfl (by decide +kernel) zq_nb1 zq_fb1 (Nat.le_of_ble_eq_true rfl) d_BlockDesk_start_21 (fun H locs hP hD hS => ?_)
        have hP : va_P (dC, dI) classes [(a0, .inr (0, [.ref a1, .ref a2, .int (nI rc), .int (nI bg), .ref a3, .int (nI ss), .ref a4, .int (nI hs1), .int (nI 1), .int ch1, .int wr1]))] H := hP
        have hD : va_D A [(a0, .inr (0, [.ref a1, .ref a2, .int (nI rc), .int (nI bg), .ref a3, .int (nI ss), .ref a4, .int (nI hs1), .int (nI 1), .int ch1, .int wr1]))] := hD
        refine lv_iconst (v := nI 1) hx hb d_BlockDesk_start_24 (by decide +kernel) ?_
        have hP9 := hP.sub (ws' := [(a0, .inr (0, [.ref a1, .ref a2, .int (nI rc), .int (nI bg), .ref a3, .int (nI ss), .ref a4, .int (nI hs1), .int (nI 1), .int ch1, .int wr1]))]) [0] rfl
        have hD9 := hD.sub (ws' := [(a0, .inr (0, [.ref a1, .ref a2, .int (nI rc), .int (nI bg), .ref a3, .int (nI ss), .ref a4, .int (nI hs1), .int (nI 1), .int ch1, .int wr1]))]) [0] (by decide) rfl
        have hK9 := hK.sub (tys' := []) [] rfl
        exact W.iret (v := nI 1) hx hb hr (fun t ht hW => ⟨⟨nI 1, (nI 1, hs1, ch1, wr1), rfl, Or.inr (Or.inr ⟨c_4, rfl, up1, hw, rfl⟩), by rw [ht]; exact hP9, va_K.moved hW.alike hK9, hD9⟩, hS.F ht⟩) hS.2.2 d_BlockDesk_start_25
      · exact absurd c_14 (xq_n0 (by omega) (by omega))
  · refine lv_iconst (v := nI 0) hx hb d_BlockDesk_start_7 (by decide +kernel) ?_
    have hP9 := hP.sub (ws' := [(a0, .inr (0, [.ref a1, .ref a2, .int (nI rc), .int (nI bg), .ref a3, .int (nI ss), .ref a4, .int (nI hs), .int up, .int ch, .int wr]))]) [0] rfl
    have hD9 := hD.sub (ws' := [(a0, .inr (0, [.ref a1, .ref a2, .int (nI rc), .int (nI bg), .ref a3, .int (nI ss), .ref a4, .int (nI hs), .int up, .int ch, .int wr]))]) [0] (by decide) rfl
    have hK9 := hK.sub (tys' := []) [] rfl
    exact W.iret (v := nI 0) hx hb hr (fun t ht hW => ⟨⟨nI 0, (up, hs, ch, wr), rfl, Or.inl ⟨c_4, rfl, rfl⟩, by rw [ht]; exact hP9, va_K.moved hW.alike hK9, hD9⟩, hS.F ht⟩) hS.2.2 d_BlockDesk_start_8
set_option maxHeartbeats 4000000 in
set_option maxRecDepth 100000 in
theorem c_BlockDesk_charge (l : Launch) (dC : Nat → ClassId) (dI : Nat → Nat → Nat) (sz : Nat) (a0 : Nat) (a1 : Nat) (a2 : Nat) (a3 : Nat) (a4 : Nat) (rc : Nat) (bg : Nat) (ss : Nat) (hs : Nat) (up : Int32) (ch : Int32) (wr : Int32) (n : Int32)  : Met l y_BlockDesk_charge w_BlockDesk_charge ({ frames := 0, cells := 0, slots := 0, locals := 0 }) (va_Pc [.ref a0, .int n] (fun U => U.heap.size = sz ∧ va_P (dC, dI) classes [(a0, .inr (0, [.ref a1, .ref a2, .int (nI rc), .int (nI bg), .ref a3, .int (nI ss), .ref a4, .int (nI hs), .int up, .int ch, .int wr]))] U.heap ∧ va_K (dC, dI) classes [] U ∧ va_D (fun _ => True) [(a0, .inr (0, [.ref a1, .ref a2, .int (nI rc), .int (nI bg), .ref a3, .int (nI ss), .ref a4, .int (nI hs), .int up, .int ch, .int wr]))])) (va_Qi (fun (r : Int32) (u : Int32) => (0 ≤ n.toInt ∧ n.toInt ≤ 999 ∧ r = nI 1 ∧ u = n) ∨ (¬ (0 ≤ n.toInt ∧ n.toInt ≤ 999) ∧ r = nI 0 ∧ u = ch)) (fun (u : Int32) (t : State) => match u with | ch' => va_P (dC, dI) classes [(a0, .inr (0, [.ref a1, .ref a2, .int (nI rc), .int (nI bg), .ref a3, .int (nI ss), .ref a4, .int (nI hs), .int up, .int ch', .int wr]))] t.heap ∧ va_K (dC, dI) classes [] t ∧ va_D (va_A [(a0, .inr (0, [.ref a1, .ref a2, .int (nI rc), .int (nI bg), .ref a3, .int (nI ss), .ref a4, .int (nI hs), .int up, .int ch, .int wr]))] sz) [(a0, .inr (0, [.ref a1, .ref a2, .int (nI rc), .int (nI bg), .ref a3, .int (nI ss), .ref a4, .int (nI hs), .int up, .int ch', .int wr]))]) (va_A [(a0, .inr (0, [.ref a1, .ref a2, .int (nI rc), .int (nI bg), .ref a3, .int (nI ss), .ref a4, .int (nI hs), .int up, .int ch, .int wr]))] sz)) 0 0 (va_A [(a0, .inr (0, [.ref a1, .ref a2, .int (nI rc), .int (nI bg), .ref a3, .int (nI ss), .ref a4, .int (nI hs), .int up, .int ch, .int wr]))] sz) := by
  refine Met.ofW (cc := b_BlockDesk_charge) (maxL := 2) (ret := (some .boolean)) (by decide) rfl ?_
  intro p e s m args below meth c s₁ B hml hv
  obtain ⟨rfl, hsz, hP, hK, hD0⟩ := hv
  have hx := B.exec
  have hb := B.bytes
  have hr := B.returns
  have hts := atoms_spec (ws := w_BlockDesk_charge) B.pre
  have hown : s.vm.findClass R_BlockDesk = some m.cls := findClass_of_methodNamed B.named
  have hlocks := B.notSynchronized
  subst hsz
  have hD := hD0.self (sz := s.heap.size)
  generalize hAe : va_A [(a0, .inr (0, [.ref a1, .ref a2, .int (nI rc), .int (nI bg), .ref a3, .int (nI ss), .ref a4, .int (nI hs), .int up, .int ch, .int wr]))] s.heap.size = A at hD ⊢
  have hA : ∀ q : Nat, s.heap.size ≤ q → A q := fun q h => by rw [← hAe]; exact Or.inr h
  have hS : va_S A s.heap s.heap [] := va_S.rf
  have hP : va_P (dC, dI) classes [(a0, .inr (0, [.ref a1, .ref a2, .int (nI rc), .int (nI bg), .ref a3, .int (nI ss), .ref a4, .int (nI hs), .int up, .int ch, .int wr]))] s.heap := hP
  have hin0 : ∀ w ∈ u_ws R_BlockDesk F_BlockDesk 11, w ∈ w_BlockDesk_charge := by decide +kernel
  have hl := lv_entry ([.ref a0, .int n]) (n := 2) (Nat.le_of_ble_eq_true rfl)
  rw [lg_entry_eq]
  generalize (lg_sl ([.ref a0, .int n]) ++ List.replicate (2 - (lg_sl ([.ref a0, .int n])).length) Slot.unset).toArray = ls at hl ⊢
  have hl : lv_has ls 2 [(0, .ref a0), (1, .int n)] := hl
  refine lv_iload_n hx hb d_BlockDesk_charge_0 rfl (lv_at hl 1 rfl) ?_
  refine lv_if_lt (tgt := 11) hx hb d_BlockDesk_charge_1 (by decide) (fun c_1 => ?_) (fun c_1 => ?_)
  · have c_1 : n.toInt < 0 := xq_lt_0r.mp c_1
    refine lv_iconst (v := nI 0) hx hb d_BlockDesk_charge_11 (by decide +kernel) ?_
    have hP9 := hP.sub (ws' := [(a0, .inr (0, [.ref a1, .ref a2, .int (nI rc), .int (nI bg), .ref a3, .int (nI ss), .ref a4, .int (nI hs), .int up, .int ch, .int wr]))]) [0] rfl
    have hD9 := hD.sub (ws' := [(a0, .inr (0, [.ref a1, .ref a2, .int (nI rc), .int (nI bg), .ref a3, .int (nI ss), .ref a4, .int (nI hs), .int up, .int ch, .int wr]))]) [0] (by decide) rfl
    have hK9 := hK.sub (tys' := []) [] rfl
    exact W.zret (v := nI 0) hx hb hr zq_nb0 (fun t ht hW => ⟨⟨nI 0, ch, rfl, Or.inr ⟨by omega, rfl, rfl⟩, by rw [ht]; exact hP9, va_K.moved hW.alike hK9, hD9⟩, hS.F ht⟩) hS.2.2 d_BlockDesk_charge_12
  · have c_1 : ¬ (n.toInt < 0) := fun h9 => c_1 (xq_lt_0r.mpr h9)
    refine lv_iload_n hx hb d_BlockDesk_charge_4 rfl (lv_at hl 1 rfl) ?_
    refine lv_sipush (v := nI 999) hx hb d_BlockDesk_charge_5 (by decide +kernel) ?_
    refine lv_icmp_le (tgt := 13) hx hb d_BlockDesk_charge_8 (by decide) (fun c_8 => ?_) (fun c_8 => ?_)
    · have c_8 : n.toInt ≤ ((999 : Nat) : Int) := (xq_le_r (by omega)).mp c_8
      refine lv_aload_n hx hb d_BlockDesk_charge_13 rfl (lv_at hl 0 rfl) ?_
      refine lv_iload_n hx hb d_BlockDesk_charge_14 rfl (lv_at hl 1 rfl) ?_
      refine va_put (D := (dC, dI)) (ci := 0) (v := .int n) (ty := .int) (C := R_BlockDesk) (T := F_BlockDesk) (N := 11) hx hb hts hin0 t_BlockDesk t_BlockDesk_ok n_BlockDesk hown hK hP hD hS 0 rfl rfl 9 (by decide) (hts (.fieldLink R_BlockDesk 27 "BlockDesk" "charge" "I") (by decide +kernel)) (fun _ h9 => h9) rfl (by decide +kernel) rfl rfl (Nat.le_of_ble_eq_true rfl) d_BlockDesk_charge_15 (fun H locs hP hD hS => ?_)
      have hP : va_P (dC, dI) classes [(a0, .inr (0, [.ref a1, .ref a2, .int (nI rc), .int (nI bg), .ref a3, .int (nI ss), .ref a4, .int (nI hs), .int up, .int n, .int wr]))] H := hP
      have hD : va_D A [(a0, .inr (0, [.ref a1, .ref a2, .int (nI rc), .int (nI bg), .ref a3, .int (nI ss), .ref a4, .int (nI hs), .int up, .int n, .int wr]))] := hD
      refine lv_iconst (v := nI 1) hx hb d_BlockDesk_charge_18 (by decide +kernel) ?_
      have hP9 := hP.sub (ws' := [(a0, .inr (0, [.ref a1, .ref a2, .int (nI rc), .int (nI bg), .ref a3, .int (nI ss), .ref a4, .int (nI hs), .int up, .int n, .int wr]))]) [0] rfl
      have hD9 := hD.sub (ws' := [(a0, .inr (0, [.ref a1, .ref a2, .int (nI rc), .int (nI bg), .ref a3, .int (nI ss), .ref a4, .int (nI hs), .int up, .int n, .int wr]))]) [0] (by decide) rfl
      have hK9 := hK.sub (tys' := []) [] rfl
      exact W.zret (v := nI 1) hx hb hr zq_nb1 (fun t ht hW => ⟨⟨nI 1, n, rfl, Or.inl ⟨by omega, by omega, rfl, rfl⟩, by rw [ht]; exact hP9, va_K.moved hW.alike hK9, hD9⟩, hS.F ht⟩) hS.2.2 d_BlockDesk_charge_19
    · have c_8 : ¬ (n.toInt ≤ ((999 : Nat) : Int)) := fun h9 => c_8 ((xq_le_r (by omega)).mpr h9)
      refine lv_iconst (v := nI 0) hx hb d_BlockDesk_charge_11 (by decide +kernel) ?_
      have hP9 := hP.sub (ws' := [(a0, .inr (0, [.ref a1, .ref a2, .int (nI rc), .int (nI bg), .ref a3, .int (nI ss), .ref a4, .int (nI hs), .int up, .int ch, .int wr]))]) [0] rfl
      have hD9 := hD.sub (ws' := [(a0, .inr (0, [.ref a1, .ref a2, .int (nI rc), .int (nI bg), .ref a3, .int (nI ss), .ref a4, .int (nI hs), .int up, .int ch, .int wr]))]) [0] (by decide) rfl
      have hK9 := hK.sub (tys' := []) [] rfl
      exact W.zret (v := nI 0) hx hb hr zq_nb0 (fun t ht hW => ⟨⟨nI 0, ch, rfl, Or.inr ⟨by omega, rfl, rfl⟩, by rw [ht]; exact hP9, va_K.moved hW.alike hK9, hD9⟩, hS.F ht⟩) hS.2.2 d_BlockDesk_charge_12
set_option maxHeartbeats 4000000 in
set_option maxRecDepth 100000 in
theorem c_BlockDesk_size (l : Launch) (dC : Nat → ClassId) (dI : Nat → Nat → Nat) (sz : Nat) (a0 : Nat) (a1 : Nat) (a2 : Nat) (a3 : Nat) (a4 : Nat) (rc : Nat) (bg : Nat) (ss : Nat) (hs : Nat) (up : Int32) (ch : Int32) (wr : Int32) (k2 : ClassId) (nS : Nat) (f2 : Nat → Int32) (T : Nat → Nat) (k : Int32) (hrc : rc < nS) (hnS : nS ≤ 4001) (hT : ∀ z, z ≤ rc → f2 z = nI (T z)) (hM : ∀ z, z < rc → T z + 4 ≤ T (z + 1)) : Met l y_BlockDesk_size w_BlockDesk_size ({ frames := 0, cells := 0, slots := 0, locals := 0 }) (va_Pc [.ref a0, .int k] (fun U => U.heap.size = sz ∧ va_P (dC, dI) classes [(a0, .inr (0, [.ref a1, .ref a2, .int (nI rc), .int (nI bg), .ref a3, .int (nI ss), .ref a4, .int (nI hs), .int up, .int ch, .int wr])), (a2, .inl (k2, nS, .inl f2))] U.heap ∧ va_K (dC, dI) classes [(k2, .int)] U ∧ va_D (fun _ => True) [(a0, .inr (0, [.ref a1, .ref a2, .int (nI rc), .int (nI bg), .ref a3, .int (nI ss), .ref a4, .int (nI hs), .int up, .int ch, .int wr])), (a2, .inl (k2, nS, .inl f2))])) (va_Qi (fun (r : Int32) (_ : Unit) => r = zq_szS up rc ss T k) (fun (_ : Unit) (t : State) => va_P (dC, dI) classes [(a0, .inr (0, [.ref a1, .ref a2, .int (nI rc), .int (nI bg), .ref a3, .int (nI ss), .ref a4, .int (nI hs), .int up, .int ch, .int wr])), (a2, .inl (k2, nS, .inl f2))] t.heap ∧ va_K (dC, dI) classes [(k2, .int)] t ∧ va_D (va_A [(a0, .inr (0, [.ref a1, .ref a2, .int (nI rc), .int (nI bg), .ref a3, .int (nI ss), .ref a4, .int (nI hs), .int up, .int ch, .int wr])), (a2, .inl (k2, nS, .inl f2))] sz) [(a0, .inr (0, [.ref a1, .ref a2, .int (nI rc), .int (nI bg), .ref a3, .int (nI ss), .ref a4, .int (nI hs), .int up, .int ch, .int wr])), (a2, .inl (k2, nS, .inl f2))]) (va_A [(a0, .inr (0, [.ref a1, .ref a2, .int (nI rc), .int (nI bg), .ref a3, .int (nI ss), .ref a4, .int (nI hs), .int up, .int ch, .int wr])), (a2, .inl (k2, nS, .inl f2))] sz)) 0 0 (va_A [(a0, .inr (0, [.ref a1, .ref a2, .int (nI rc), .int (nI bg), .ref a3, .int (nI ss), .ref a4, .int (nI hs), .int up, .int ch, .int wr])), (a2, .inl (k2, nS, .inl f2))] sz) := by
  refine Met.ofW (cc := b_BlockDesk_size) (maxL := 2) (ret := (some .int)) (by decide) rfl ?_
  intro p e s m args below meth c s₁ B hml hv
  obtain ⟨rfl, hsz, hP, hK, hD0⟩ := hv
  have hx := B.exec
  have hb := B.bytes
  have hr := B.returns
  have hts := atoms_spec (ws := w_BlockDesk_size) B.pre
  have hown : s.vm.findClass R_BlockDesk = some m.cls := findClass_of_methodNamed B.named
  have hlocks := B.notSynchronized
  subst hsz
  have hD := hD0.self (sz := s.heap.size)
  generalize hAe : va_A [(a0, .inr (0, [.ref a1, .ref a2, .int (nI rc), .int (nI bg), .ref a3, .int (nI ss), .ref a4, .int (nI hs), .int up, .int ch, .int wr])), (a2, .inl (k2, nS, .inl f2))] s.heap.size = A at hD ⊢
  have hA : ∀ q : Nat, s.heap.size ≤ q → A q := fun q h => by rw [← hAe]; exact Or.inr h
  have hS : va_S A s.heap s.heap [] := va_S.rf
  have hP : va_P (dC, dI) classes [(a0, .inr (0, [.ref a1, .ref a2, .int (nI rc), .int (nI bg), .ref a3, .int (nI ss), .ref a4, .int (nI hs), .int up, .int ch, .int wr])), (a2, .inl (k2, nS, .inl f2))] s.heap := hP
  have hin0 : ∀ w ∈ u_ws R_BlockDesk F_BlockDesk 11, w ∈ w_BlockDesk_size := by decide +kernel
  have hl := lv_entry ([.ref a0, .int k]) (n := 2) (Nat.le_of_ble_eq_true rfl)
  rw [lg_entry_eq]
  generalize (lg_sl ([.ref a0, .int k]) ++ List.replicate (2 - (lg_sl ([.ref a0, .int k])).length) Slot.unset).toArray = ls at hl ⊢
  have hl : lv_has ls 2 [(0, .ref a0), (1, .int k)] := hl
  refine lv_aload_n hx hb d_BlockDesk_size_0 rfl (lv_at hl 0 rfl) ?_
  refine va_get (D := (dC, dI)) (ci := 0) (v := .int up) (C := R_BlockDesk) (T := F_BlockDesk) (N := 11) hx hb hts hin0 hown hK hP 0 rfl rfl 8 (by decide) (hts (.fieldLink R_BlockDesk 23 "BlockDesk" "up" "Z") (by decide +kernel)) (fun _ h9 => h9) rfl d_BlockDesk_size_1 ?_
  refine lv_if_eq (tgt := 20) hx hb d_BlockDesk_size_4 (by decide) (fun c_4 => ?_) (fun c_4 => ?_)
  · refine lv_iconst (v := (-1)) hx hb d_BlockDesk_size_20 (by decide +kernel) ?_
    have hP9 := hP.sub (ws' := [(a0, .inr (0, [.ref a1, .ref a2, .int (nI rc), .int (nI bg), .ref a3, .int (nI ss), .ref a4, .int (nI hs), .int up, .int ch, .int wr])), (a2, .inl (k2, nS, .inl f2))]) [0, 1] rfl
    have hD9 := hD.sub (ws' := [(a0, .inr (0, [.ref a1, .ref a2, .int (nI rc), .int (nI bg), .ref a3, .int (nI ss), .ref a4, .int (nI hs), .int up, .int ch, .int wr])), (a2, .inl (k2, nS, .inl f2))]) [0, 1] (by decide) rfl
    have hK9 := hK.sub (tys' := [(k2, .int)]) [0] rfl
    exact W.iret (v := (-1)) hx hb hr (fun t ht hW => ⟨⟨(-1), (), rfl, zq_szS_a (by first | exact Or.inl c_4 | exact Or.inr (by omega)), by rw [ht]; exact hP9, va_K.moved hW.alike hK9, hD9⟩, hS.F ht⟩) hS.2.2 d_BlockDesk_size_21
  · refine lv_iload_n hx hb d_BlockDesk_size_7 rfl (lv_at hl 1 rfl) ?_
    refine lv_iconst (v := (-1)) hx hb d_BlockDesk_size_8 (by decide +kernel) ?_
    refine lv_icmp_lt (tgt := 20) hx hb d_BlockDesk_size_9 (by decide) (fun c_9 => ?_) (fun c_9 => ?_)
    · have c_9 : k.toInt < -1 := xq_lt_mr.mp c_9
      refine lv_iconst (v := (-1)) hx hb d_BlockDesk_size_20 (by decide +kernel) ?_
      have hP9 := hP.sub (ws' := [(a0, .inr (0, [.ref a1, .ref a2, .int (nI rc), .int (nI bg), .ref a3, .int (nI ss), .ref a4, .int (nI hs), .int up, .int ch, .int wr])), (a2, .inl (k2, nS, .inl f2))]) [0, 1] rfl
      have hD9 := hD.sub (ws' := [(a0, .inr (0, [.ref a1, .ref a2, .int (nI rc), .int (nI bg), .ref a3, .int (nI ss), .ref a4, .int (nI hs), .int up, .int ch, .int wr])), (a2, .inl (k2, nS, .inl f2))]) [0, 1] (by decide) rfl
      have hK9 := hK.sub (tys' := [(k2, .int)]) [0] rfl
      exact W.iret (v := (-1)) hx hb hr (fun t ht hW => ⟨⟨(-1), (), rfl, zq_szS_a (by first | exact Or.inl c_4 | exact Or.inr (by omega)), by rw [ht]; exact hP9, va_K.moved hW.alike hK9, hD9⟩, hS.F ht⟩) hS.2.2 d_BlockDesk_size_21
    · have c_9 : ¬ (k.toInt < -1) := fun h9 => c_9 (xq_lt_mr.mpr h9)
      refine lv_iload_n hx hb d_BlockDesk_size_12 rfl (lv_at hl 1 rfl) ?_
      refine lv_aload_n hx hb d_BlockDesk_size_13 rfl (lv_at hl 0 rfl) ?_
      refine va_get (D := (dC, dI)) (ci := 0) (v := .int (nI rc)) (C := R_BlockDesk) (T := F_BlockDesk) (N := 11) hx hb hts hin0 hown hK hP 0 rfl rfl 2 (by decide) (hts (.fieldLink R_BlockDesk 57 "BlockDesk" "records" "I") (by decide +kernel)) (fun _ h9 => h9) rfl d_BlockDesk_size_14 ?_
      refine lv_icmp_lt (tgt := 22) hx hb d_BlockDesk_size_17 (by decide) (fun c_17 => ?_) (fun c_17 => ?_)
      · have c_17 : k.toInt < ((rc : Nat) : Int) := (xq_lt_r (by omega)).mp c_17
        refine lv_iload_n hx hb d_BlockDesk_size_22 rfl (lv_at hl 1 rfl) ?_
        refine lv_iconst (v := (-1)) hx hb d_BlockDesk_size_23 (by decide +kernel) ?_
        refine lv_icmp_ne (tgt := 32) hx hb d_BlockDesk_size_24 (by decide) (fun c_24 => ?_) (fun c_24 => ?_)
        · obtain ⟨kk, hkk, rfl⟩ := zq_szS_ix c_9 c_24 c_17
          have hM1 := hM kk hkk
          have hl : lv_has ls 2 [(0, .ref a0), (1, .int (nI kk))] := hl
          refine lv_aload_n hx hb d_BlockDesk_size_32 rfl (lv_at hl 0 rfl) ?_
          refine va_get (D := (dC, dI)) (ci := 0) (v := .ref a2) (C := R_BlockDesk) (T := F_BlockDesk) (N := 11) hx hb hts hin0 hown hK hP 0 rfl rfl 1 (by decide) (hts (.fieldLink R_BlockDesk 13 "BlockDesk" "starts" "[I") (by decide +kernel)) (fun _ h9 => h9) rfl d_BlockDesk_size_33 ?_
          refine lv_iload_n hx hb d_BlockDesk_size_36 rfl (lv_at hl 1 rfl) ?_
          refine lv_iconst (v := nI 1) hx hb d_BlockDesk_size_37 (by decide +kernel) ?_
          refine lv_iadd hx hb d_BlockDesk_size_38 ?_
          refine xq_top (nI (kk + 1)) (nI_add _ _) ?_
          refine va_iald hx hb hK hP 1 0 rfl rfl (vp_in_nI (by omega) (by omega)) d_BlockDesk_size_39 ?_
          refine xq_top (nI (T (kk + 1))) (by rw [nI_clamp (by omega)]; exact hT _ (by omega)) ?_
          refine lv_aload_n hx hb d_BlockDesk_size_40 rfl (lv_at hl 0 rfl) ?_
          refine va_get (D := (dC, dI)) (ci := 0) (v := .ref a2) (C := R_BlockDesk) (T := F_BlockDesk) (N := 11) hx hb hts hin0 hown hK hP 0 rfl rfl 1 (by decide) (hts (.fieldLink R_BlockDesk 13 "BlockDesk" "starts" "[I") (by decide +kernel)) (fun _ h9 => h9) rfl d_BlockDesk_size_41 ?_
          refine lv_iload_n hx hb d_BlockDesk_size_44 rfl (lv_at hl 1 rfl) ?_
          refine va_iald hx hb hK hP 1 0 rfl rfl (vp_in_nI (by omega) (by omega)) d_BlockDesk_size_45 ?_
          refine xq_top (nI (T kk)) (by rw [nI_clamp (by omega)]; exact hT _ (by omega)) ?_
          refine lv_isub hx hb d_BlockDesk_size_46 ?_
          refine xq_top (nI (T (kk + 1) - (T kk))) (pk_sub (by omega)) ?_
          refine lv_iconst (v := nI 4) hx hb d_BlockDesk_size_47 (by decide +kernel) ?_
          refine lv_isub hx hb d_BlockDesk_size_48 ?_
          refine xq_top (nI (T (kk + 1) - (T kk) - 4)) (pk_sub (by omega)) ?_
          have hP9 := hP.sub (ws' := [(a0, .inr (0, [.ref a1, .ref a2, .int (nI rc), .int (nI bg), .ref a3, .int (nI ss), .ref a4, .int (nI hs), .int up, .int ch, .int wr])), (a2, .inl (k2, nS, .inl f2))]) [0, 1] rfl
          have hD9 := hD.sub (ws' := [(a0, .inr (0, [.ref a1, .ref a2, .int (nI rc), .int (nI bg), .ref a3, .int (nI ss), .ref a4, .int (nI hs), .int up, .int ch, .int wr])), (a2, .inl (k2, nS, .inl f2))]) [0, 1] (by decide) rfl
          have hK9 := hK.sub (tys' := [(k2, .int)]) [0] rfl
          exact W.iret (v := nI (T (kk + 1) - (T kk) - 4)) hx hb hr (fun t ht hW => ⟨⟨nI (T (kk + 1) - (T kk) - 4), (), rfl, zq_szS_c c_4 hkk (by omega), by rw [ht]; exact hP9, va_K.moved hW.alike hK9, hD9⟩, hS.F ht⟩) hS.2.2 d_BlockDesk_size_49
        · refine lv_aload_n hx hb d_BlockDesk_size_27 rfl (lv_at hl 0 rfl) ?_
          refine va_get (D := (dC, dI)) (ci := 0) (v := .int (nI ss)) (C := R_BlockDesk) (T := F_BlockDesk) (N := 11) hx hb hts hin0 hown hK hP 0 rfl rfl 5 (by decide) (hts (.fieldLink R_BlockDesk 73 "BlockDesk" "snapshotSize" "I") (by decide +kernel)) (fun _ h9 => h9) rfl d_BlockDesk_size_28 ?_
          have hP9 := hP.sub (ws' := [(a0, .inr (0, [.ref a1, .ref a2, .int (nI rc), .int (nI bg), .ref a3, .int (nI ss), .ref a4, .int (nI hs), .int up, .int ch, .int wr])), (a2, .inl (k2, nS, .inl f2))]) [0, 1] rfl
          have hD9 := hD.sub (ws' := [(a0, .inr (0, [.ref a1, .ref a2, .int (nI rc), .int (nI bg), .ref a3, .int (nI ss), .ref a4, .int (nI hs), .int up, .int ch, .int wr])), (a2, .inl (k2, nS, .inl f2))]) [0, 1] (by decide) rfl
          have hK9 := hK.sub (tys' := [(k2, .int)]) [0] rfl
          exact W.iret (v := nI ss) hx hb hr (fun t ht hW => ⟨⟨nI ss, (), rfl, zq_szS_b c_4 c_24, by rw [ht]; exact hP9, va_K.moved hW.alike hK9, hD9⟩, hS.F ht⟩) hS.2.2 d_BlockDesk_size_31
      · have c_17 : ¬ (k.toInt < ((rc : Nat) : Int)) := fun h9 => c_17 ((xq_lt_r (by omega)).mpr h9)
        refine lv_iconst (v := (-1)) hx hb d_BlockDesk_size_20 (by decide +kernel) ?_
        have hP9 := hP.sub (ws' := [(a0, .inr (0, [.ref a1, .ref a2, .int (nI rc), .int (nI bg), .ref a3, .int (nI ss), .ref a4, .int (nI hs), .int up, .int ch, .int wr])), (a2, .inl (k2, nS, .inl f2))]) [0, 1] rfl
        have hD9 := hD.sub (ws' := [(a0, .inr (0, [.ref a1, .ref a2, .int (nI rc), .int (nI bg), .ref a3, .int (nI ss), .ref a4, .int (nI hs), .int up, .int ch, .int wr])), (a2, .inl (k2, nS, .inl f2))]) [0, 1] (by decide) rfl
        have hK9 := hK.sub (tys' := [(k2, .int)]) [0] rfl
        exact W.iret (v := (-1)) hx hb hr (fun t ht hW => ⟨⟨(-1), (), rfl, zq_szS_a (by first | exact Or.inl c_4 | exact Or.inr (by omega)), by rw [ht]; exact hP9, va_K.moved hW.alike hK9, hD9⟩, hS.F ht⟩) hS.2.2 d_BlockDesk_size_21
set_option maxHeartbeats 4000000 in
set_option maxRecDepth 100000 in
theorem c_BlockDesk_byteOf (l : Launch) (dC : Nat → ClassId) (dI : Nat → Nat → Nat) (sz : Nat) (a0 : Nat) (a1 : Nat) (a2 : Nat) (a3 : Nat) (a4 : Nat) (rc : Nat) (bg : Nat) (ss : Nat) (hs : Nat) (up : Int32) (ch : Int32) (wr : Int32) (k2 : ClassId) (nS : Nat) (f2 : Nat → Int32) (T : Nat → Nat) (k1 : ClassId) (k3 : ClassId) (nJ : Nat) (f1 : Nat → Int32) (f3 : Nat → Int32) (gp : Nat → Int32) (gb : Nat → Int32) (k : Int32) (i : Int32) (hrc : rc < nS) (hnS : nS ≤ 4001) (hT : ∀ z, z ≤ rc → f2 z = nI (T z)) (hM : ∀ z, z < rc → T z + 4 ≤ T (z + 1)) (hss : ss ≤ 8000) (hTb : ∀ z, z ≤ rc → T z ≤ 16000) (hTj : ∀ z, z ≤ rc → T z ≤ nJ) (hnJ : nJ ≤ 16000) (hp : ∀ z, z < ss → f3 z &&& nI 255 = gp z) (hj : ∀ k, k < rc → ∀ z, T k + 4 + z < T (k + 1) → f1 (T k + 4 + z) &&& nI 255 = gb (T k - 4 * k + z)) : Met l y_BlockDesk_byteOf w_BlockDesk_byteOf ({ frames := 1, cells := 0, slots := 0, locals := 22 }) (va_Pc [.ref a0, .int k, .int i] (fun U => U.heap.size = sz ∧ va_P (dC, dI) classes [(a0, .inr (0, [.ref a1, .ref a2, .int (nI rc), .int (nI bg), .ref a3, .int (nI ss), .ref a4, .int (nI hs), .int up, .int ch, .int wr])), (a1, .inl (k1, nJ, .inl f1)), (a2, .inl (k2, nS, .inl f2)), (a3, .inl (k3, 8000, .inl f3))] U.heap ∧ va_K (dC, dI) classes [(k1, .byte), (k2, .int), (k3, .byte)] U ∧ va_D (fun _ => True) [(a0, .inr (0, [.ref a1, .ref a2, .int (nI rc), .int (nI bg), .ref a3, .int (nI ss), .ref a4, .int (nI hs), .int up, .int ch, .int wr])), (a1, .inl (k1, nJ, .inl f1)), (a2, .inl (k2, nS, .inl f2)), (a3, .inl (k3, 8000, .inl f3))])) (va_Qi (fun (r : Int32) (_ : Unit) => r = zq_btS up rc ss T gp gb k i) (fun (_ : Unit) (t : State) => va_P (dC, dI) classes [(a0, .inr (0, [.ref a1, .ref a2, .int (nI rc), .int (nI bg), .ref a3, .int (nI ss), .ref a4, .int (nI hs), .int up, .int ch, .int wr])), (a1, .inl (k1, nJ, .inl f1)), (a2, .inl (k2, nS, .inl f2)), (a3, .inl (k3, 8000, .inl f3))] t.heap ∧ va_K (dC, dI) classes [(k1, .byte), (k2, .int), (k3, .byte)] t ∧ va_D (va_A [(a0, .inr (0, [.ref a1, .ref a2, .int (nI rc), .int (nI bg), .ref a3, .int (nI ss), .ref a4, .int (nI hs), .int up, .int ch, .int wr])), (a1, .inl (k1, nJ, .inl f1)), (a2, .inl (k2, nS, .inl f2)), (a3, .inl (k3, 8000, .inl f3))] sz) [(a0, .inr (0, [.ref a1, .ref a2, .int (nI rc), .int (nI bg), .ref a3, .int (nI ss), .ref a4, .int (nI hs), .int up, .int ch, .int wr])), (a1, .inl (k1, nJ, .inl f1)), (a2, .inl (k2, nS, .inl f2)), (a3, .inl (k3, 8000, .inl f3))]) (va_A [(a0, .inr (0, [.ref a1, .ref a2, .int (nI rc), .int (nI bg), .ref a3, .int (nI ss), .ref a4, .int (nI hs), .int up, .int ch, .int wr])), (a1, .inl (k1, nJ, .inl f1)), (a2, .inl (k2, nS, .inl f2)), (a3, .inl (k3, 8000, .inl f3))] sz)) 0 0 (va_A [(a0, .inr (0, [.ref a1, .ref a2, .int (nI rc), .int (nI bg), .ref a3, .int (nI ss), .ref a4, .int (nI hs), .int up, .int ch, .int wr])), (a1, .inl (k1, nJ, .inl f1)), (a2, .inl (k2, nS, .inl f2)), (a3, .inl (k3, 8000, .inl f3))] sz) := by
  refine Met.ofW (cc := b_BlockDesk_byteOf) (maxL := 4) (ret := (some .int)) (by decide) rfl ?_
  intro p e s m args below meth c s₁ B hml hv
  obtain ⟨rfl, hsz, hP, hK, hD0⟩ := hv
  have hx := B.exec
  have hb := B.bytes
  have hr := B.returns
  have hts := atoms_spec (ws := w_BlockDesk_byteOf) B.pre
  have hown : s.vm.findClass R_BlockDesk = some m.cls := findClass_of_methodNamed B.named
  have hlocks := B.notSynchronized
  subst hsz
  have hD := hD0.self (sz := s.heap.size)
  generalize hAe : va_A [(a0, .inr (0, [.ref a1, .ref a2, .int (nI rc), .int (nI bg), .ref a3, .int (nI ss), .ref a4, .int (nI hs), .int up, .int ch, .int wr])), (a1, .inl (k1, nJ, .inl f1)), (a2, .inl (k2, nS, .inl f2)), (a3, .inl (k3, 8000, .inl f3))] s.heap.size = A at hD ⊢
  have hA : ∀ q : Nat, s.heap.size ≤ q → A q := fun q h => by rw [← hAe]; exact Or.inr h
  have hS : va_S A s.heap s.heap [] := va_S.rf
  have hP : va_P (dC, dI) classes [(a0, .inr (0, [.ref a1, .ref a2, .int (nI rc), .int (nI bg), .ref a3, .int (nI ss), .ref a4, .int (nI hs), .int up, .int ch, .int wr])), (a1, .inl (k1, nJ, .inl f1)), (a2, .inl (k2, nS, .inl f2)), (a3, .inl (k3, 8000, .inl f3))] s.heap := hP
  have hin0 : ∀ w ∈ u_ws R_BlockDesk F_BlockDesk 11, w ∈ w_BlockDesk_byteOf := by decide +kernel
  have hl := lv_entry ([.ref a0, .int k, .int i]) (n := 4) (Nat.le_of_ble_eq_true rfl)
  rw [lg_entry_eq]
  generalize (lg_sl ([.ref a0, .int k, .int i]) ++ List.replicate (4 - (lg_sl ([.ref a0, .int k, .int i])).length) Slot.unset).toArray = ls at hl ⊢
  have hl : lv_has ls 4 [(0, .ref a0), (1, .int k), (2, .int i)] := hl
  refine lv_iload_n hx hb d_BlockDesk_byteOf_0 rfl (lv_at hl 2 rfl) ?_
  refine lv_if_lt (tgt := 13) hx hb d_BlockDesk_byteOf_1 (by decide) (fun c_1 => ?_) (fun c_1 => ?_)
  · have c_1 : i.toInt < 0 := xq_lt_0r.mp c_1
    refine lv_iconst (v := (-1)) hx hb d_BlockDesk_byteOf_13 (by decide +kernel) ?_
    have hP9 := hP.sub (ws' := [(a0, .inr (0, [.ref a1, .ref a2, .int (nI rc), .int (nI bg), .ref a3, .int (nI ss), .ref a4, .int (nI hs), .int up, .int ch, .int wr])), (a1, .inl (k1, nJ, .inl f1)), (a2, .inl (k2, nS, .inl f2)), (a3, .inl (k3, 8000, .inl f3))]) [0, 1, 2, 3] rfl
    have hD9 := hD.sub (ws' := [(a0, .inr (0, [.ref a1, .ref a2, .int (nI rc), .int (nI bg), .ref a3, .int (nI ss), .ref a4, .int (nI hs), .int up, .int ch, .int wr])), (a1, .inl (k1, nJ, .inl f1)), (a2, .inl (k2, nS, .inl f2)), (a3, .inl (k3, 8000, .inl f3))]) [0, 1, 2, 3] (by decide) rfl
    have hK9 := hK.sub (tys' := [(k1, .byte), (k2, .int), (k3, .byte)]) [0, 1, 2] rfl
    exact W.iret (v := (-1)) hx hb hr (fun t ht hW => ⟨⟨(-1), (), rfl, zq_btS_a (by first | exact Or.inl c_1 | exact Or.inr (by omega)), by rw [ht]; exact hP9, va_K.moved hW.alike hK9, hD9⟩, hS.F ht⟩) hS.2.2 d_BlockDesk_byteOf_14
  · have c_1 : ¬ (i.toInt < 0) := fun h9 => c_1 (xq_lt_0r.mpr h9)
    refine lv_iload_n hx hb d_BlockDesk_byteOf_4 rfl (lv_at hl 2 rfl) ?_
    refine lv_aload_n hx hb d_BlockDesk_byteOf_5 rfl (lv_at hl 0 rfl) ?_
    refine lv_iload_n hx hb d_BlockDesk_byteOf_6 rfl (lv_at hl 1 rfl) ?_
    have hPc := hP.sub (ws' := [(a0, .inr (0, [.ref a1, .ref a2, .int (nI rc), .int (nI bg), .ref a3, .int (nI ss), .ref a4, .int (nI hs), .int up, .int ch, .int wr])), (a2, .inl (k2, nS, .inl f2))]) [0, 2] rfl
    have hDc := hD.sub (ws' := [(a0, .inr (0, [.ref a1, .ref a2, .int (nI rc), .int (nI bg), .ref a3, .int (nI ss), .ref a4, .int (nI hs), .int up, .int ch, .int wr])), (a2, .inl (k2, nS, .inl f2))]) [0, 2] (by decide) rfl
    have hKc := hK.sub (tys' := [(k2, .int)]) [1] rfl
    have hFc := va_free (wc := [(a0, .inr (0, [.ref a1, .ref a2, .int (nI rc), .int (nI bg), .ref a3, .int (nI ss), .ref a4, .int (nI hs), .int up, .int ch, .int wr])), (a2, .inl (k2, nS, .inl f2))]) hD hS hA [0, 2] rfl
    refine va_calli (va_runV (As := [.int k]) (rest := [.int i]) ⟨hx, hb, hml, hown, hts⟩ (c_BlockDesk_size l dC dI s.heap.size a0 a1 a2 a3 a4 rc bg ss hs up ch wr k2 nS f2 T k hrc hnS hT hM) (cwV 1 hts g_BlockDesk_byteOf_BlockDesk_size rfl rfl rfl (by decide +kernel) ⟨Nat.le_of_ble_eq_true rfl, Nat.le_of_ble_eq_true rfl⟩) ⟨fun a U g mk q => by obtain ⟨q0, q1, qP, qK, qD⟩ := q; exact ⟨q0, q1, qP, va_K.moved (u := U) (U := U.calling g mk a) (Vm.Alike.refl U.vm) qK, qD⟩, va_recv hKc hPc (ci := 0) (q0 := 0) rfl rfl, fun U hU hW => ⟨rfl, by rw [hU], by rw [hU]; exact hPc, va_K.moved hW.alike hKc, hDc.weaken (fun _ _ _ _ => trivial)⟩⟩ rfl rfl hl.1 rfl (lv_room (Nat.le_of_ble_eq_true rfl)) d_BlockDesk_byteOf_7 ⟨(Nat.zero_le _), (Nat.zero_le _)⟩) hS (fun q _ h => hFc q h) hFc (fun r_7 u t H1 locs ht hvm hw hB hz1 hk1 hS => ?_)
    obtain ⟨hP1, hK1, hD1⟩ := hB
    rw [ht] at hP1
    try dsimp only at hw
    obtain ⟨hP, hD⟩ := va_join (wr := [(a1, .inl (k1, nJ, .inl f1)), (a3, .inl (k3, 8000, .inl f3))]) (w1 := [(a0, .inr (0, [.ref a1, .ref a2, .int (nI rc), .int (nI bg), .ref a3, .int (nI ss), .ref a4, .int (nI hs), .int up, .int ch, .int wr])), (a2, .inl (k2, nS, .inl f2))]) hP hD [0, 2] [1, 3] rfl rfl (by decide) (by decide) hk1 hFc hP1 hD1
    generalize H1 = H at hP hS ⊢
    have hP : va_P (dC, dI) classes [(a1, .inl (k1, nJ, .inl f1)), (a3, .inl (k3, 8000, .inl f3)), (a0, .inr (0, [.ref a1, .ref a2, .int (nI rc), .int (nI bg), .ref a3, .int (nI ss), .ref a4, .int (nI hs), .int up, .int ch, .int wr])), (a2, .inl (k2, nS, .inl f2))] H := hP
    have hD : va_D A [(a1, .inl (k1, nJ, .inl f1)), (a3, .inl (k3, 8000, .inl f3)), (a0, .inr (0, [.ref a1, .ref a2, .int (nI rc), .int (nI bg), .ref a3, .int (nI ss), .ref a4, .int (nI hs), .int up, .int ch, .int wr])), (a2, .inl (k2, nS, .inl f2))] := hD
    subst hw
    refine lv_icmp_lt (tgt := 15) hx hb d_BlockDesk_byteOf_10 (by decide) (fun c_10 => ?_) (fun c_10 => ?_)
    · have c_10 : i.toInt < (zq_szS up rc ss T k).toInt := xq_lt.mp c_10
      rcases zq_szS_in (by omega) hss hTb c_1 c_10 with ⟨rfl, ii, hii, rfl⟩ | ⟨kk, ii, hkk, rfl, hii, rfl⟩
      · have hk9 : True := trivial
        have hl : lv_has ls 4 [(0, .ref a0), (1, .int (-1)), (2, .int (nI ii))] := hl
        refine lv_iload_n hx hb d_BlockDesk_byteOf_15 rfl (lv_at hl 1 rfl) ?_
        refine lv_iconst (v := (-1)) hx hb d_BlockDesk_byteOf_16 (by decide +kernel) ?_
        refine lv_icmp_ne (tgt := 29) hx hb d_BlockDesk_byteOf_17 (by decide) (fun c_17 => ?_) (fun c_17 => ?_)
        · exact absurd rfl c_17
        · refine lv_aload_n hx hb d_BlockDesk_byteOf_20 rfl (lv_at hl 0 rfl) ?_
          refine va_get (D := (dC, dI)) (ci := 0) (v := .ref a3) (C := R_BlockDesk) (T := F_BlockDesk) (N := 11) hx hb hts hin0 hown hK hP 2 rfl rfl 4 (by decide) (hts (.fieldLink R_BlockDesk 17 "BlockDesk" "snapshotBytes" "[B") (by decide +kernel)) (fun _ h9 => h9) rfl d_BlockDesk_byteOf_21 ?_
          refine lv_iload_n hx hb d_BlockDesk_byteOf_24 rfl (lv_at hl 2 rfl) ?_
          refine va_bald hx hb hK hP 1 2 rfl rfl (vp_in_nI (by omega) (by omega)) d_BlockDesk_byteOf_25 ?_
          refine xq_top (f3 ii) (by rw [nI_clamp (by omega)]) ?_
          refine lv_goto (tgt := 44) hx hb d_BlockDesk_byteOf_26 (by decide) ?_
          refine lv_istore_n (lv' := [(3, .int (f3 ii)), (0, .ref a0), (1, .int (-1)), (2, .int (nI ii))]) hx hb d_BlockDesk_byteOf_44 rfl hl (by decide) rfl (fun ls hl => ?_)
          refine lv_iload_n hx hb d_BlockDesk_byteOf_45 rfl (lv_at hl 0 rfl) ?_
          refine lv_sipush (v := nI 255) hx hb d_BlockDesk_byteOf_46 (by decide +kernel) ?_
          refine lv_iand hx hb d_BlockDesk_byteOf_49 ?_
          have hP9 := hP.sub (ws' := [(a0, .inr (0, [.ref a1, .ref a2, .int (nI rc), .int (nI bg), .ref a3, .int (nI ss), .ref a4, .int (nI hs), .int up, .int ch, .int wr])), (a1, .inl (k1, nJ, .inl f1)), (a2, .inl (k2, nS, .inl f2)), (a3, .inl (k3, 8000, .inl f3))]) [2, 0, 3, 1] rfl
          have hD9 := hD.sub (ws' := [(a0, .inr (0, [.ref a1, .ref a2, .int (nI rc), .int (nI bg), .ref a3, .int (nI ss), .ref a4, .int (nI hs), .int up, .int ch, .int wr])), (a1, .inl (k1, nJ, .inl f1)), (a2, .inl (k2, nS, .inl f2)), (a3, .inl (k3, 8000, .inl f3))]) [2, 0, 3, 1] (by decide) rfl
          have hK9 := hK.sub (tys' := [(k1, .byte), (k2, .int), (k3, .byte)]) [0, 1, 2] rfl
          exact W.iret (v := (f3 ii) &&& (nI 255)) hx hb hr (fun t ht hW => ⟨⟨(f3 ii) &&& (nI 255), (), rfl, zq_btS_b (by omega) c_1 c_10 (hp ii hii), by rw [ht]; exact hP9, va_K.moved hW.alike hK9, hD9⟩, hS.F ht⟩) hS.2.2 d_BlockDesk_byteOf_50
      · have hM1 := hM kk hkk
        have hTb1 := hTb (kk + 1) (by omega)
        have hTj1 := hTj (kk + 1) (by omega)
        have hl : lv_has ls 4 [(0, .ref a0), (1, .int (nI kk)), (2, .int (nI ii))] := hl
        refine lv_iload_n hx hb d_BlockDesk_byteOf_15 rfl (lv_at hl 1 rfl) ?_
        refine lv_iconst (v := (-1)) hx hb d_BlockDesk_byteOf_16 (by decide +kernel) ?_
        refine lv_icmp_ne (tgt := 29) hx hb d_BlockDesk_byteOf_17 (by decide) (fun c_17 => ?_) (fun c_17 => ?_)
        · refine lv_aload_n hx hb d_BlockDesk_byteOf_29 rfl (lv_at hl 0 rfl) ?_
          refine va_get (D := (dC, dI)) (ci := 0) (v := .ref a1) (C := R_BlockDesk) (T := F_BlockDesk) (N := 11) hx hb hts hin0 hown hK hP 2 rfl rfl 0 (by decide) (hts (.fieldLink R_BlockDesk 9 "BlockDesk" "journal" "[B") (by decide +kernel)) (fun _ h9 => h9) rfl d_BlockDesk_byteOf_30 ?_
          refine lv_aload_n hx hb d_BlockDesk_byteOf_33 rfl (lv_at hl 0 rfl) ?_
          refine va_get (D := (dC, dI)) (ci := 0) (v := .ref a2) (C := R_BlockDesk) (T := F_BlockDesk) (N := 11) hx hb hts hin0 hown hK hP 2 rfl rfl 1 (by decide) (hts (.fieldLink R_BlockDesk 13 "BlockDesk" "starts" "[I") (by decide +kernel)) (fun _ h9 => h9) rfl d_BlockDesk_byteOf_34 ?_
          refine lv_iload_n hx hb d_BlockDesk_byteOf_37 rfl (lv_at hl 1 rfl) ?_
          refine va_iald hx hb hK hP 3 1 rfl rfl (vp_in_nI (by omega) (by omega)) d_BlockDesk_byteOf_38 ?_
          refine xq_top (nI (T kk)) (by rw [nI_clamp (by omega)]; exact hT _ (by omega)) ?_
          refine lv_iconst (v := nI 4) hx hb d_BlockDesk_byteOf_39 (by decide +kernel) ?_
          refine lv_iadd hx hb d_BlockDesk_byteOf_40 ?_
          refine xq_top (nI (T kk + 4)) (nI_add _ _) ?_
          refine lv_iload_n hx hb d_BlockDesk_byteOf_41 rfl (lv_at hl 2 rfl) ?_
          refine lv_iadd hx hb d_BlockDesk_byteOf_42 ?_
          refine xq_top (nI (T kk + 4 + ii)) (nI_add _ _) ?_
          refine va_bald hx hb hK hP 0 0 rfl rfl (vp_in_nI (by omega) (by omega)) d_BlockDesk_byteOf_43 ?_
          refine xq_top (f1 (T kk + 4 + ii)) (by rw [nI_clamp (by omega)]) ?_
          refine lv_istore_n (lv' := [(3, .int (f1 (T kk + 4 + ii))), (0, .ref a0), (1, .int (nI kk)), (2, .int (nI ii))]) hx hb d_BlockDesk_byteOf_44 rfl hl (by decide) rfl (fun ls hl => ?_)
          refine lv_iload_n hx hb d_BlockDesk_byteOf_45 rfl (lv_at hl 0 rfl) ?_
          refine lv_sipush (v := nI 255) hx hb d_BlockDesk_byteOf_46 (by decide +kernel) ?_
          refine lv_iand hx hb d_BlockDesk_byteOf_49 ?_
          have hP9 := hP.sub (ws' := [(a0, .inr (0, [.ref a1, .ref a2, .int (nI rc), .int (nI bg), .ref a3, .int (nI ss), .ref a4, .int (nI hs), .int up, .int ch, .int wr])), (a1, .inl (k1, nJ, .inl f1)), (a2, .inl (k2, nS, .inl f2)), (a3, .inl (k3, 8000, .inl f3))]) [2, 0, 3, 1] rfl
          have hD9 := hD.sub (ws' := [(a0, .inr (0, [.ref a1, .ref a2, .int (nI rc), .int (nI bg), .ref a3, .int (nI ss), .ref a4, .int (nI hs), .int up, .int ch, .int wr])), (a1, .inl (k1, nJ, .inl f1)), (a2, .inl (k2, nS, .inl f2)), (a3, .inl (k3, 8000, .inl f3))]) [2, 0, 3, 1] (by decide) rfl
          have hK9 := hK.sub (tys' := [(k1, .byte), (k2, .int), (k3, .byte)]) [0, 1, 2] rfl
          exact W.iret (v := (f1 (T kk + 4 + ii)) &&& (nI 255)) hx hb hr (fun t ht hW => ⟨⟨(f1 (T kk + 4 + ii)) &&& (nI 255), (), rfl, zq_btS_c (by omega) (by omega) c_1 c_10 (hj kk hkk ii hii), by rw [ht]; exact hP9, va_K.moved hW.alike hK9, hD9⟩, hS.F ht⟩) hS.2.2 d_BlockDesk_byteOf_50
        · exact absurd c_17 (xq_nm1 (by omega))
    · have c_10 : ¬ (i.toInt < (zq_szS up rc ss T k).toInt) := fun h9 => c_10 (xq_lt.mpr h9)
      refine lv_iconst (v := (-1)) hx hb d_BlockDesk_byteOf_13 (by decide +kernel) ?_
      have hP9 := hP.sub (ws' := [(a0, .inr (0, [.ref a1, .ref a2, .int (nI rc), .int (nI bg), .ref a3, .int (nI ss), .ref a4, .int (nI hs), .int up, .int ch, .int wr])), (a1, .inl (k1, nJ, .inl f1)), (a2, .inl (k2, nS, .inl f2)), (a3, .inl (k3, 8000, .inl f3))]) [2, 0, 3, 1] rfl
      have hD9 := hD.sub (ws' := [(a0, .inr (0, [.ref a1, .ref a2, .int (nI rc), .int (nI bg), .ref a3, .int (nI ss), .ref a4, .int (nI hs), .int up, .int ch, .int wr])), (a1, .inl (k1, nJ, .inl f1)), (a2, .inl (k2, nS, .inl f2)), (a3, .inl (k3, 8000, .inl f3))]) [2, 0, 3, 1] (by decide) rfl
      have hK9 := hK.sub (tys' := [(k1, .byte), (k2, .int), (k3, .byte)]) [0, 1, 2] rfl
      exact W.iret (v := (-1)) hx hb hr (fun t ht hW => ⟨⟨(-1), (), rfl, zq_btS_a (by first | exact Or.inl c_1 | exact Or.inr (by omega)), by rw [ht]; exact hP9, va_K.moved hW.alike hK9, hD9⟩, hS.F ht⟩) hS.2.2 d_BlockDesk_byteOf_14
set_option maxHeartbeats 4000000 in
set_option maxRecDepth 100000 in
theorem c_BlockDesk_state (l : Launch) (dC : Nat → ClassId) (dI : Nat → Nat → Nat) (sz : Nat) (a0 : Nat) (a1 : Nat) (a2 : Nat) (a3 : Nat) (a4 : Nat) (rc : Nat) (bg : Nat) (ss : Nat) (hs : Nat) (up : Int32) (ch : Int32) (wr : Int32) (k2 : ClassId) (nS : Nat) (tu : Nat) (f2 : Nat → Int32) (what : Int32) (hrc : rc < nS) (hnS : nS ≤ 4001) (htu : f2 rc = nI tu) : Met l y_BlockDesk_state w_BlockDesk_state ({ frames := 1, cells := 0, slots := 0, locals := 22 }) (va_Pc [.ref a0, .int what] (fun U => U.heap.size = sz ∧ va_P (dC, dI) classes [(a0, .inr (0, [.ref a1, .ref a2, .int (nI rc), .int (nI bg), .ref a3, .int (nI ss), .ref a4, .int (nI hs), .int up, .int ch, .int wr])), (a2, .inl (k2, nS, .inl f2))] U.heap ∧ va_K (dC, dI) classes [(k2, .int)] U ∧ va_D (fun _ => True) [(a0, .inr (0, [.ref a1, .ref a2, .int (nI rc), .int (nI bg), .ref a3, .int (nI ss), .ref a4, .int (nI hs), .int up, .int ch, .int wr])), (a2, .inl (k2, nS, .inl f2))])) (va_Qi (fun (r : Int32) (_ : Unit) => r = zq_stS up rc bg (bg + tu) hs wr what) (fun (_ : Unit) (t : State) => va_P (dC, dI) classes [(a0, .inr (0, [.ref a1, .ref a2, .int (nI rc), .int (nI bg), .ref a3, .int (nI ss), .ref a4, .int (nI hs), .int up, .int ch, .int wr])), (a2, .inl (k2, nS, .inl f2))] t.heap ∧ va_K (dC, dI) classes [(k2, .int)] t ∧ va_D (va_A [(a0, .inr (0, [.ref a1, .ref a2, .int (nI rc), .int (nI bg), .ref a3, .int (nI ss), .ref a4, .int (nI hs), .int up, .int ch, .int wr])), (a2, .inl (k2, nS, .inl f2))] sz) [(a0, .inr (0, [.ref a1, .ref a2, .int (nI rc), .int (nI bg), .ref a3, .int (nI ss), .ref a4, .int (nI hs), .int up, .int ch, .int wr])), (a2, .inl (k2, nS, .inl f2))]) (va_A [(a0, .inr (0, [.ref a1, .ref a2, .int (nI rc), .int (nI bg), .ref a3, .int (nI ss), .ref a4, .int (nI hs), .int up, .int ch, .int wr])), (a2, .inl (k2, nS, .inl f2))] sz)) 0 0 (va_A [(a0, .inr (0, [.ref a1, .ref a2, .int (nI rc), .int (nI bg), .ref a3, .int (nI ss), .ref a4, .int (nI hs), .int up, .int ch, .int wr])), (a2, .inl (k2, nS, .inl f2))] sz) := by
  refine Met.ofW (cc := b_BlockDesk_state) (maxL := 2) (ret := (some .int)) (by decide) rfl ?_
  intro p e s m args below meth c s₁ B hml hv
  obtain ⟨rfl, hsz, hP, hK, hD0⟩ := hv
  have hx := B.exec
  have hb := B.bytes
  have hr := B.returns
  have hts := atoms_spec (ws := w_BlockDesk_state) B.pre
  have hown : s.vm.findClass R_BlockDesk = some m.cls := findClass_of_methodNamed B.named
  have hlocks := B.notSynchronized
  subst hsz
  have hD := hD0.self (sz := s.heap.size)
  generalize hAe : va_A [(a0, .inr (0, [.ref a1, .ref a2, .int (nI rc), .int (nI bg), .ref a3, .int (nI ss), .ref a4, .int (nI hs), .int up, .int ch, .int wr])), (a2, .inl (k2, nS, .inl f2))] s.heap.size = A at hD ⊢
  have hA : ∀ q : Nat, s.heap.size ≤ q → A q := fun q h => by rw [← hAe]; exact Or.inr h
  have hS : va_S A s.heap s.heap [] := va_S.rf
  have hP : va_P (dC, dI) classes [(a0, .inr (0, [.ref a1, .ref a2, .int (nI rc), .int (nI bg), .ref a3, .int (nI ss), .ref a4, .int (nI hs), .int up, .int ch, .int wr])), (a2, .inl (k2, nS, .inl f2))] s.heap := hP
  have hin0 : ∀ w ∈ u_ws R_BlockDesk F_BlockDesk 11, w ∈ w_BlockDesk_state := by decide +kernel
  have hl := lv_entry ([.ref a0, .int what]) (n := 2) (Nat.le_of_ble_eq_true rfl)
  rw [lg_entry_eq]
  generalize (lg_sl ([.ref a0, .int what]) ++ List.replicate (2 - (lg_sl ([.ref a0, .int what])).length) Slot.unset).toArray = ls at hl ⊢
  have hl : lv_has ls 2 [(0, .ref a0), (1, .int what)] := hl
  refine lv_iload_n hx hb d_BlockDesk_state_0 rfl (lv_at hl 1 rfl) ?_
  refine lv_if_ne (tgt := 17) hx hb d_BlockDesk_state_1 (by decide) (fun c_1 => ?_) (fun c_1 => ?_)
  · refine lv_iload_n hx hb d_BlockDesk_state_17 rfl (lv_at hl 1 rfl) ?_
    refine lv_iconst (v := nI 5) hx hb d_BlockDesk_state_18 (by decide +kernel) ?_
    refine lv_icmp_ne (tgt := 27) hx hb d_BlockDesk_state_19 (by decide) (fun c_19 => ?_) (fun c_19 => ?_)
    · refine lv_aload_n hx hb d_BlockDesk_state_27 rfl (lv_at hl 0 rfl) ?_
      refine va_get (D := (dC, dI)) (ci := 0) (v := .int up) (C := R_BlockDesk) (T := F_BlockDesk) (N := 11) hx hb hts hin0 hown hK hP 0 rfl rfl 8 (by decide) (hts (.fieldLink R_BlockDesk 23 "BlockDesk" "up" "Z") (by decide +kernel)) (fun _ h9 => h9) rfl d_BlockDesk_state_28 ?_
      refine lv_if_ne (tgt := 36) hx hb d_BlockDesk_state_31 (by decide) (fun c_31 => ?_) (fun c_31 => ?_)
      · refine lv_iload_n hx hb d_BlockDesk_state_36 rfl (lv_at hl 1 rfl) ?_
        by_cases h_1 : what = nI 1
        · subst h_1
          refine lv_tableIn (off := 31) (tgt := 68) hx hb d_BlockDesk_state_37 (by decide +kernel) (by decide +kernel) (by decide +kernel) (by decide) ?_
          refine lv_aload_n hx hb d_BlockDesk_state_68 rfl (lv_at hl 0 rfl) ?_
          refine va_get (D := (dC, dI)) (ci := 0) (v := .int (nI rc)) (C := R_BlockDesk) (T := F_BlockDesk) (N := 11) hx hb hts hin0 hown hK hP 0 rfl rfl 2 (by decide) (hts (.fieldLink R_BlockDesk 57 "BlockDesk" "records" "I") (by decide +kernel)) (fun _ h9 => h9) rfl d_BlockDesk_state_69 ?_
          have hP9 := hP.sub (ws' := [(a0, .inr (0, [.ref a1, .ref a2, .int (nI rc), .int (nI bg), .ref a3, .int (nI ss), .ref a4, .int (nI hs), .int up, .int ch, .int wr])), (a2, .inl (k2, nS, .inl f2))]) [0, 1] rfl
          have hD9 := hD.sub (ws' := [(a0, .inr (0, [.ref a1, .ref a2, .int (nI rc), .int (nI bg), .ref a3, .int (nI ss), .ref a4, .int (nI hs), .int up, .int ch, .int wr])), (a2, .inl (k2, nS, .inl f2))]) [0, 1] (by decide) rfl
          have hK9 := hK.sub (tys' := [(k2, .int)]) [0] rfl
          exact W.iret (v := nI rc) hx hb hr (fun t ht hW => ⟨⟨nI rc, (), rfl, (by unfold zq_stS; rw [if_neg c_1, if_neg c_19, if_neg c_31, if_pos rfl]), by rw [ht]; exact hP9, va_K.moved hW.alike hK9, hD9⟩, hS.F ht⟩) hS.2.2 d_BlockDesk_state_72
        · by_cases h_2 : what = nI 2
          · subst h_2
            refine lv_tableIn (off := 36) (tgt := 73) hx hb d_BlockDesk_state_37 (by decide +kernel) (by decide +kernel) (by decide +kernel) (by decide) ?_
            refine lv_aload_n hx hb d_BlockDesk_state_73 rfl (lv_at hl 0 rfl) ?_
            refine va_get (D := (dC, dI)) (ci := 0) (v := .int (nI bg)) (C := R_BlockDesk) (T := F_BlockDesk) (N := 11) hx hb hts hin0 hown hK hP 0 rfl rfl 3 (by decide) (hts (.fieldLink R_BlockDesk 82 "BlockDesk" "begin" "I") (by decide +kernel)) (fun _ h9 => h9) rfl d_BlockDesk_state_74 ?_
            have hP9 := hP.sub (ws' := [(a0, .inr (0, [.ref a1, .ref a2, .int (nI rc), .int (nI bg), .ref a3, .int (nI ss), .ref a4, .int (nI hs), .int up, .int ch, .int wr])), (a2, .inl (k2, nS, .inl f2))]) [0, 1] rfl
            have hD9 := hD.sub (ws' := [(a0, .inr (0, [.ref a1, .ref a2, .int (nI rc), .int (nI bg), .ref a3, .int (nI ss), .ref a4, .int (nI hs), .int up, .int ch, .int wr])), (a2, .inl (k2, nS, .inl f2))]) [0, 1] (by decide) rfl
            have hK9 := hK.sub (tys' := [(k2, .int)]) [0] rfl
            exact W.iret (v := nI bg) hx hb hr (fun t ht hW => ⟨⟨nI bg, (), rfl, (by unfold zq_stS; rw [if_neg c_1, if_neg c_19, if_neg c_31, if_neg (show ¬ nI 2 = nI 1 by decide +kernel), if_pos rfl]), by rw [ht]; exact hP9, va_K.moved hW.alike hK9, hD9⟩, hS.F ht⟩) hS.2.2 d_BlockDesk_state_77
          · by_cases h_3 : what = nI 3
            · subst h_3
              refine lv_tableIn (off := 41) (tgt := 78) hx hb d_BlockDesk_state_37 (by decide +kernel) (by decide +kernel) (by decide +kernel) (by decide) ?_
              refine lv_aload_n hx hb d_BlockDesk_state_78 rfl (lv_at hl 0 rfl) ?_
              refine va_get (D := (dC, dI)) (ci := 0) (v := .int (nI bg)) (C := R_BlockDesk) (T := F_BlockDesk) (N := 11) hx hb hts hin0 hown hK hP 0 rfl rfl 3 (by decide) (hts (.fieldLink R_BlockDesk 82 "BlockDesk" "begin" "I") (by decide +kernel)) (fun _ h9 => h9) rfl d_BlockDesk_state_79 ?_
              refine lv_aload_n hx hb d_BlockDesk_state_82 rfl (lv_at hl 0 rfl) ?_
              have hPc := hP.sub (ws' := [(a0, .inr (0, [.ref a1, .ref a2, .int (nI rc), .int (nI bg), .ref a3, .int (nI ss), .ref a4, .int (nI hs), .int up, .int ch, .int wr])), (a2, .inl (k2, nS, .inl f2))]) [0, 1] rfl
              have hDc := hD.sub (ws' := [(a0, .inr (0, [.ref a1, .ref a2, .int (nI rc), .int (nI bg), .ref a3, .int (nI ss), .ref a4, .int (nI hs), .int up, .int ch, .int wr])), (a2, .inl (k2, nS, .inl f2))]) [0, 1] (by decide) rfl
              have hKc := hK.sub (tys' := [(k2, .int)]) [0] rfl
              have hFc := va_free (wc := [(a0, .inr (0, [.ref a1, .ref a2, .int (nI rc), .int (nI bg), .ref a3, .int (nI ss), .ref a4, .int (nI hs), .int up, .int ch, .int wr])), (a2, .inl (k2, nS, .inl f2))]) hD hS hA [0, 1] rfl
              refine va_calli (va_runV (As := []) (rest := [.int (nI bg)]) ⟨hx, hb, hml, hown, hts⟩ (c_BlockDesk_usedPlaces l dC dI s.heap.size a0 a1 a2 a3 a4 rc bg ss hs up ch wr k2 nS f2 hrc hnS) (cwV 0 hts g_BlockDesk_state_BlockDesk_usedPlaces rfl rfl rfl (by decide +kernel) ⟨Nat.le_of_ble_eq_true rfl, Nat.le_of_ble_eq_true rfl⟩) ⟨fun a U g mk q => by obtain ⟨q0, q1, qP, qK, qD⟩ := q; exact ⟨q0, q1, qP, va_K.moved (u := U) (U := U.calling g mk a) (Vm.Alike.refl U.vm) qK, qD⟩, va_recv hKc hPc (ci := 0) (q0 := 0) rfl rfl, fun U hU hW => ⟨rfl, by rw [hU], by rw [hU]; exact hPc, va_K.moved hW.alike hKc, hDc.weaken (fun _ _ _ _ => trivial)⟩⟩ rfl rfl hl.1 rfl (lv_room (Nat.le_of_ble_eq_true rfl)) d_BlockDesk_state_83 ⟨(Nat.zero_le _), (Nat.zero_le _)⟩) hS (fun q _ h => hFc q h) hFc (fun r_83 u t H1 locs ht hvm hw hB hz1 hk1 hS => ?_)
              obtain ⟨hP1, hK1, hD1⟩ := hB
              rw [ht] at hP1
              try dsimp only at hw
              obtain ⟨hP, hD⟩ := va_join (wr := []) (w1 := [(a0, .inr (0, [.ref a1, .ref a2, .int (nI rc), .int (nI bg), .ref a3, .int (nI ss), .ref a4, .int (nI hs), .int up, .int ch, .int wr])), (a2, .inl (k2, nS, .inl f2))]) hP hD [0, 1] [] rfl rfl (by decide) (by decide) hk1 hFc hP1 hD1
              generalize H1 = H at hP hS ⊢
              have hP : va_P (dC, dI) classes [(a0, .inr (0, [.ref a1, .ref a2, .int (nI rc), .int (nI bg), .ref a3, .int (nI ss), .ref a4, .int (nI hs), .int up, .int ch, .int wr])), (a2, .inl (k2, nS, .inl f2))] H := hP
              have hD : va_D A [(a0, .inr (0, [.ref a1, .ref a2, .int (nI rc), .int (nI bg), .ref a3, .int (nI ss), .ref a4, .int (nI hs), .int up, .int ch, .int wr])), (a2, .inl (k2, nS, .inl f2))] := hD
              obtain rfl : r_83 = nI tu := hw.trans htu
              refine lv_iadd hx hb d_BlockDesk_state_86 ?_
              refine xq_top (nI (bg + tu)) (nI_add _ _) ?_
              have hP9 := hP.sub (ws' := [(a0, .inr (0, [.ref a1, .ref a2, .int (nI rc), .int (nI bg), .ref a3, .int (nI ss), .ref a4, .int (nI hs), .int up, .int ch, .int wr])), (a2, .inl (k2, nS, .inl f2))]) [0, 1] rfl
              have hD9 := hD.sub (ws' := [(a0, .inr (0, [.ref a1, .ref a2, .int (nI rc), .int (nI bg), .ref a3, .int (nI ss), .ref a4, .int (nI hs), .int up, .int ch, .int wr])), (a2, .inl (k2, nS, .inl f2))]) [0, 1] (by decide) rfl
              have hK9 := hK.sub (tys' := [(k2, .int)]) [0] rfl
              exact W.iret (v := nI (bg + tu)) hx hb hr (fun t ht hW => ⟨⟨nI (bg + tu), (), rfl, (by unfold zq_stS; rw [if_neg c_1, if_neg c_19, if_neg c_31, if_neg (show ¬ nI 3 = nI 1 by decide +kernel), if_neg (show ¬ nI 3 = nI 2 by decide +kernel), if_pos rfl]), by rw [ht]; exact hP9, va_K.moved hW.alike hK9, hD9⟩, hS.F ht⟩) hS.2.2 d_BlockDesk_state_87
            · by_cases h_4 : what = nI 4
              · subst h_4
                refine lv_tableIn (off := 51) (tgt := 88) hx hb d_BlockDesk_state_37 (by decide +kernel) (by decide +kernel) (by decide +kernel) (by decide) ?_
                refine lv_aload_n hx hb d_BlockDesk_state_88 rfl (lv_at hl 0 rfl) ?_
                refine va_get (D := (dC, dI)) (ci := 0) (v := .int (nI hs)) (C := R_BlockDesk) (T := F_BlockDesk) (N := 11) hx hb hts hin0 hown hK hP 0 rfl rfl 7 (by decide) (hts (.fieldLink R_BlockDesk 35 "BlockDesk" "handSize" "I") (by decide +kernel)) (fun _ h9 => h9) rfl d_BlockDesk_state_89 ?_
                have hP9 := hP.sub (ws' := [(a0, .inr (0, [.ref a1, .ref a2, .int (nI rc), .int (nI bg), .ref a3, .int (nI ss), .ref a4, .int (nI hs), .int up, .int ch, .int wr])), (a2, .inl (k2, nS, .inl f2))]) [0, 1] rfl
                have hD9 := hD.sub (ws' := [(a0, .inr (0, [.ref a1, .ref a2, .int (nI rc), .int (nI bg), .ref a3, .int (nI ss), .ref a4, .int (nI hs), .int up, .int ch, .int wr])), (a2, .inl (k2, nS, .inl f2))]) [0, 1] (by decide) rfl
                have hK9 := hK.sub (tys' := [(k2, .int)]) [0] rfl
                exact W.iret (v := nI hs) hx hb hr (fun t ht hW => ⟨⟨nI hs, (), rfl, (by unfold zq_stS; rw [if_neg c_1, if_neg c_19, if_neg c_31, if_neg (show ¬ nI 4 = nI 1 by decide +kernel), if_neg (show ¬ nI 4 = nI 2 by decide +kernel), if_neg (show ¬ nI 4 = nI 3 by decide +kernel), if_pos rfl]), by rw [ht]; exact hP9, va_K.moved hW.alike hK9, hD9⟩, hS.F ht⟩) hS.2.2 d_BlockDesk_state_92
              · have t_1 := lv_neT h_1 (show (nI 1).toInt = 1 by decide +kernel)
                have t_2 := lv_neT h_2 (show (nI 2).toInt = 2 by decide +kernel)
                have t_3 := lv_neT h_3 (show (nI 3).toInt = 3 by decide +kernel)
                have t_4 := lv_neT h_4 (show (nI 4).toInt = 4 by decide +kernel)
                refine lv_tableOut (tgt := 93) hx hb d_BlockDesk_state_37 (by omega) (by decide) ?_
                refine lv_iconst (v := (-1)) hx hb d_BlockDesk_state_93 (by decide +kernel) ?_
                have hP9 := hP.sub (ws' := [(a0, .inr (0, [.ref a1, .ref a2, .int (nI rc), .int (nI bg), .ref a3, .int (nI ss), .ref a4, .int (nI hs), .int up, .int ch, .int wr])), (a2, .inl (k2, nS, .inl f2))]) [0, 1] rfl
                have hD9 := hD.sub (ws' := [(a0, .inr (0, [.ref a1, .ref a2, .int (nI rc), .int (nI bg), .ref a3, .int (nI ss), .ref a4, .int (nI hs), .int up, .int ch, .int wr])), (a2, .inl (k2, nS, .inl f2))]) [0, 1] (by decide) rfl
                have hK9 := hK.sub (tys' := [(k2, .int)]) [0] rfl
                exact W.iret (v := (-1)) hx hb hr (fun t ht hW => ⟨⟨(-1), (), rfl, (by unfold zq_stS; rw [if_neg c_1, if_neg c_19, if_neg c_31, if_neg h_1, if_neg h_2, if_neg h_3, if_neg h_4]), by rw [ht]; exact hP9, va_K.moved hW.alike hK9, hD9⟩, hS.F ht⟩) hS.2.2 d_BlockDesk_state_94
      · refine lv_iconst (v := (-1)) hx hb d_BlockDesk_state_34 (by decide +kernel) ?_
        have hP9 := hP.sub (ws' := [(a0, .inr (0, [.ref a1, .ref a2, .int (nI rc), .int (nI bg), .ref a3, .int (nI ss), .ref a4, .int (nI hs), .int up, .int ch, .int wr])), (a2, .inl (k2, nS, .inl f2))]) [0, 1] rfl
        have hD9 := hD.sub (ws' := [(a0, .inr (0, [.ref a1, .ref a2, .int (nI rc), .int (nI bg), .ref a3, .int (nI ss), .ref a4, .int (nI hs), .int up, .int ch, .int wr])), (a2, .inl (k2, nS, .inl f2))]) [0, 1] (by decide) rfl
        have hK9 := hK.sub (tys' := [(k2, .int)]) [0] rfl
        exact W.iret (v := (-1)) hx hb hr (fun t ht hW => ⟨⟨(-1), (), rfl, (by unfold zq_stS; rw [if_neg c_1, if_neg c_19, if_pos c_31]), by rw [ht]; exact hP9, va_K.moved hW.alike hK9, hD9⟩, hS.F ht⟩) hS.2.2 d_BlockDesk_state_35
    · refine lv_aload_n hx hb d_BlockDesk_state_22 rfl (lv_at hl 0 rfl) ?_
      refine va_get (D := (dC, dI)) (ci := 0) (v := .int wr) (C := R_BlockDesk) (T := F_BlockDesk) (N := 11) hx hb hts hin0 hown hK hP 0 rfl rfl 10 (by decide) (hts (.fieldLink R_BlockDesk 79 "BlockDesk" "written" "I") (by decide +kernel)) (fun _ h9 => h9) rfl d_BlockDesk_state_23 ?_
      have hP9 := hP.sub (ws' := [(a0, .inr (0, [.ref a1, .ref a2, .int (nI rc), .int (nI bg), .ref a3, .int (nI ss), .ref a4, .int (nI hs), .int up, .int ch, .int wr])), (a2, .inl (k2, nS, .inl f2))]) [0, 1] rfl
      have hD9 := hD.sub (ws' := [(a0, .inr (0, [.ref a1, .ref a2, .int (nI rc), .int (nI bg), .ref a3, .int (nI ss), .ref a4, .int (nI hs), .int up, .int ch, .int wr])), (a2, .inl (k2, nS, .inl f2))]) [0, 1] (by decide) rfl
      have hK9 := hK.sub (tys' := [(k2, .int)]) [0] rfl
      exact W.iret (v := wr) hx hb hr (fun t ht hW => ⟨⟨wr, (), rfl, (by unfold zq_stS; rw [if_neg c_1, if_pos c_19]), by rw [ht]; exact hP9, va_K.moved hW.alike hK9, hD9⟩, hS.F ht⟩) hS.2.2 d_BlockDesk_state_26
  · refine lv_aload_n hx hb d_BlockDesk_state_4 rfl (lv_at hl 0 rfl) ?_
    refine va_get (D := (dC, dI)) (ci := 0) (v := .int up) (C := R_BlockDesk) (T := F_BlockDesk) (N := 11) hx hb hts hin0 hown hK hP 0 rfl rfl 8 (by decide) (hts (.fieldLink R_BlockDesk 23 "BlockDesk" "up" "Z") (by decide +kernel)) (fun _ h9 => h9) rfl d_BlockDesk_state_5 ?_
    refine lv_if_eq (tgt := 15) hx hb d_BlockDesk_state_8 (by decide) (fun c_8 => ?_) (fun c_8 => ?_)
    · refine lv_iconst (v := nI 0) hx hb d_BlockDesk_state_15 (by decide +kernel) ?_
      have hP9 := hP.sub (ws' := [(a0, .inr (0, [.ref a1, .ref a2, .int (nI rc), .int (nI bg), .ref a3, .int (nI ss), .ref a4, .int (nI hs), .int up, .int ch, .int wr])), (a2, .inl (k2, nS, .inl f2))]) [0, 1] rfl
      have hD9 := hD.sub (ws' := [(a0, .inr (0, [.ref a1, .ref a2, .int (nI rc), .int (nI bg), .ref a3, .int (nI ss), .ref a4, .int (nI hs), .int up, .int ch, .int wr])), (a2, .inl (k2, nS, .inl f2))]) [0, 1] (by decide) rfl
      have hK9 := hK.sub (tys' := [(k2, .int)]) [0] rfl
      exact W.iret (v := nI 0) hx hb hr (fun t ht hW => ⟨⟨nI 0, (), rfl, (by unfold zq_stS; rw [if_pos c_1, if_pos c_8]), by rw [ht]; exact hP9, va_K.moved hW.alike hK9, hD9⟩, hS.F ht⟩) hS.2.2 d_BlockDesk_state_16
    · refine lv_iconst (v := nI 1) hx hb d_BlockDesk_state_11 (by decide +kernel) ?_
      refine lv_goto (tgt := 16) hx hb d_BlockDesk_state_12 (by decide) ?_
      have hP9 := hP.sub (ws' := [(a0, .inr (0, [.ref a1, .ref a2, .int (nI rc), .int (nI bg), .ref a3, .int (nI ss), .ref a4, .int (nI hs), .int up, .int ch, .int wr])), (a2, .inl (k2, nS, .inl f2))]) [0, 1] rfl
      have hD9 := hD.sub (ws' := [(a0, .inr (0, [.ref a1, .ref a2, .int (nI rc), .int (nI bg), .ref a3, .int (nI ss), .ref a4, .int (nI hs), .int up, .int ch, .int wr])), (a2, .inl (k2, nS, .inl f2))]) [0, 1] (by decide) rfl
      have hK9 := hK.sub (tys' := [(k2, .int)]) [0] rfl
      exact W.iret (v := nI 1) hx hb hr (fun t ht hW => ⟨⟨nI 1, (), rfl, (by unfold zq_stS; rw [if_pos c_1, if_neg c_8]), by rw [ht]; exact hP9, va_K.moved hW.alike hK9, hD9⟩, hS.F ht⟩) hS.2.2 d_BlockDesk_state_16
