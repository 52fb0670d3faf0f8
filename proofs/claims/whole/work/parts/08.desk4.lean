set_option maxHeartbeats 4000000 in
set_option maxRecDepth 100000 in
theorem c_BlockDesk_record (l : Launch) (dC : Nat → ClassId) (dI : Nat → Nat → Nat) (sz : Nat) (a0 : Nat) (a1 : Nat) (a2 : Nat) (a3 : Nat) (a4 : Nat) (rc : Nat) (bg : Nat) (ss : Nat) (hs : Nat) (up : Int32) (ch : Int32) (wr : Int32) (k1 : ClassId) (k2 : ClassId) (k4 : ClassId) (nJ : Nat) (nS : Nat) (N : Nat) (tu : Nat) (f1 : Nat → Int32) (f2 : Nat → Int32) (f4 : Nat → Int32) (hrc : rc < nS) (hnS : nS = 125 * N + 1) (hnJ : nJ = 500 * N) (hN : N ≤ 32) (htu : f2 rc = nI tu) (htb : tu ≤ 16000) (h4 : 4 * rc ≤ tu) (hhs : hs ≤ 8000) (hfit : ∀ z, z < hs → fits .byte (.int (f4 z)) = true) : Met l y_BlockDesk_record w_BlockDesk_record ({ frames := 2, cells := 0, slots := 0, locals := 46 }) (va_Pc [.ref a0] (fun U => U.heap.size = sz ∧ va_P (dC, dI) classes [(a0, .inr (0, [.ref a1, .ref a2, .int (nI rc), .int (nI bg), .ref a3, .int (nI ss), .ref a4, .int (nI hs), .int up, .int ch, .int wr])), (a1, .inl (k1, nJ, .inl f1)), (a2, .inl (k2, nS, .inl f2)), (a4, .inl (k4, 8000, .inl f4))] U.heap ∧ va_K (dC, dI) classes [(k1, .byte), (k2, .int), (k4, .byte)] U ∧ va_D (fun _ => True) [(a0, .inr (0, [.ref a1, .ref a2, .int (nI rc), .int (nI bg), .ref a3, .int (nI ss), .ref a4, .int (nI hs), .int up, .int ch, .int wr])), (a1, .inl (k1, nJ, .inl f1)), (a2, .inl (k2, nS, .inl f2)), (a4, .inl (k4, 8000, .inl f4))])) (va_Qi (fun (r : Int32) (u : Nat × Int32 × Nat × Int32 × Int32 × (Nat → Int32) × (Nat → Int32)) => ((up = 0 ∨ 500 * N < tu + 4 + hs) ∧ r = nI 0 ∧ u = (rc, up, hs, ch, wr, f1, f2)) ∨ (¬ up = 0 ∧ tu + 4 + hs ≤ 500 * N ∧ r = nI 2 ∧ ∃ (up1 : Int32) (hs1 : Nat) (ch1 wr1 : Int32), (nI 0, up1, hs1, ch1, wr1) = zq_wb up hs ch wr (nI ((tu + 4 + hs - 1) / 500 - (tu / 500) + 1)) ∧ u = (rc, up1, hs1, ch1, wr1, f1, f2)) ∨ (¬ up = 0 ∧ tu + 4 + hs ≤ 500 * N ∧ r = nI 1 ∧ ∃ (up1 ch1 wr1 : Int32) (fx : Nat → Int32), (nI 1, up1, hs, ch1, wr1) = zq_wb up hs ch wr (nI ((tu + 4 + hs - 1) / 500 - (tu / 500) + 1)) ∧ zq_app f1 fx (tu + 4) hs f4 ∧ u = (rc + 1, up1, 0, ch1, wr1, fx, upd f2 (rc + 1) (nI (tu + 4 + hs))))) (fun (u : Nat × Int32 × Nat × Int32 × Int32 × (Nat → Int32) × (Nat → Int32)) (t : State) => match u with | (rc', up', hs', ch', wr', f', f2') => va_P (dC, dI) classes [(a0, .inr (0, [.ref a1, .ref a2, .int (nI rc'), .int (nI bg), .ref a3, .int (nI ss), .ref a4, .int (nI hs'), .int up', .int ch', .int wr'])), (a1, .inl (k1, nJ, .inl f')), (a2, .inl (k2, nS, .inl f2')), (a4, .inl (k4, 8000, .inl f4))] t.heap ∧ va_K (dC, dI) classes [(k1, .byte), (k2, .int), (k4, .byte)] t ∧ va_D (va_A [(a0, .inr (0, [.ref a1, .ref a2, .int (nI rc), .int (nI bg), .ref a3, .int (nI ss), .ref a4, .int (nI hs), .int up, .int ch, .int wr])), (a1, .inl (k1, nJ, .inl f1)), (a2, .inl (k2, nS, .inl f2)), (a4, .inl (k4, 8000, .inl f4))] sz) [(a0, .inr (0, [.ref a1, .ref a2, .int (nI rc'), .int (nI bg), .ref a3, .int (nI ss), .ref a4, .int (nI hs'), .int up', .int ch', .int wr'])), (a1, .inl (k1, nJ, .inl f')), (a2, .inl (k2, nS, .inl f2')), (a4, .inl (k4, 8000, .inl f4))]) (va_A [(a0, .inr (0, [.ref a1, .ref a2, .int (nI rc), .int (nI bg), .ref a3, .int (nI ss), .ref a4, .int (nI hs), .int up, .int ch, .int wr])), (a1, .inl (k1, nJ, .inl f1)), (a2, .inl (k2, nS, .inl f2)), (a4, .inl (k4, 8000, .inl f4))] sz)) 0 0 (va_A [(a0, .inr (0, [.ref a1, .ref a2, .int (nI rc), .int (nI bg), .ref a3, .int (nI ss), .ref a4, .int (nI hs), .int up, .int ch, .int wr])), (a1, .inl (k1, nJ, .inl f1)), (a2, .inl (k2, nS, .inl f2)), (a4, .inl (k4, 8000, .inl f4))] sz) := by
  refine Met.ofW (cc := b_BlockDesk_record) (maxL := 5) (ret := (some .int)) (by decide) rfl ?_
  intro p e s m args below meth c s₁ B hml hv
  obtain ⟨rfl, hsz, hP, hK, hD0⟩ := hv
  have hx := B.exec
  have hb := B.bytes
  have hr := B.returns
  have hts := atoms_spec (ws := w_BlockDesk_record) B.pre
  have hown : s.vm.findClass R_BlockDesk = some m.cls := findClass_of_methodNamed B.named
  have hlocks := B.notSynchronized
  subst hsz
  have hD := hD0.self (sz := s.heap.size)
  generalize hAe : va_A [(a0, .inr (0, [.ref a1, .ref a2, .int (nI rc), .int (nI bg), .ref a3, .int (nI ss), .ref a4, .int (nI hs), .int up, .int ch, .int wr])), (a1, .inl (k1, nJ, .inl f1)), (a2, .inl (k2, nS, .inl f2)), (a4, .inl (k4, 8000, .inl f4))] s.heap.size = A at hD ⊢
  have hA : ∀ q : Nat, s.heap.size ≤ q → A q := fun q h => by rw [← hAe]; exact Or.inr h
  have hS : va_S A s.heap s.heap [] := va_S.rf
  have hP : va_P (dC, dI) classes [(a0, .inr (0, [.ref a1, .ref a2, .int (nI rc), .int (nI bg), .ref a3, .int (nI ss), .ref a4, .int (nI hs), .int up, .int ch, .int wr])), (a1, .inl (k1, nJ, .inl f1)), (a2, .inl (k2, nS, .inl f2)), (a4, .inl (k4, 8000, .inl f4))] s.heap := hP
  have hin0 : ∀ w ∈ u_ws R_BlockDesk F_BlockDesk 11, w ∈ w_BlockDesk_record := by decide +kernel
  have hl := lv_entry ([.ref a0]) (n := 5) (Nat.le_of_ble_eq_true rfl)
  rw [lg_entry_eq]
  generalize (lg_sl ([.ref a0]) ++ List.replicate (5 - (lg_sl ([.ref a0])).length) Slot.unset).toArray = ls at hl ⊢
  have hl : lv_has ls 5 [(0, .ref a0)] := hl
  refine lv_aload_n hx hb d_BlockDesk_record_0 rfl (lv_at hl 0 rfl) ?_
  refine va_get (D := (dC, dI)) (ci := 0) (v := .int up) (C := R_BlockDesk) (T := F_BlockDesk) (N := 11) hx hb hts hin0 hown hK hP 0 rfl rfl 8 (by decide) (hts (.fieldLink R_BlockDesk 23 "BlockDesk" "up" "Z") (by decide +kernel)) (fun _ h9 => h9) rfl d_BlockDesk_record_1 ?_
  refine lv_if_ne (tgt := 9) hx hb d_BlockDesk_record_4 (by decide) (fun c_4 => ?_) (fun c_4 => ?_)
  · refine lv_aload_n hx hb d_BlockDesk_record_9 rfl (lv_at hl 0 rfl) ?_
    have hPc := hP.sub (ws' := [(a0, .inr (0, [.ref a1, .ref a2, .int (nI rc), .int (nI bg), .ref a3, .int (nI ss), .ref a4, .int (nI hs), .int up, .int ch, .int wr])), (a2, .inl (k2, nS, .inl f2))]) [0, 2] rfl
    have hDc := hD.sub (ws' := [(a0, .inr (0, [.ref a1, .ref a2, .int (nI rc), .int (nI bg), .ref a3, .int (nI ss), .ref a4, .int (nI hs), .int up, .int ch, .int wr])), (a2, .inl (k2, nS, .inl f2))]) [0, 2] (by decide) rfl
    have hKc := hK.sub (tys' := [(k2, .int)]) [1] rfl
    have hFc := va_free (wc := [(a0, .inr (0, [.ref a1, .ref a2, .int (nI rc), .int (nI bg), .ref a3, .int (nI ss), .ref a4, .int (nI hs), .int up, .int ch, .int wr])), (a2, .inl (k2, nS, .inl f2))]) hD hS hA [0, 2] rfl
    refine va_calli (va_runV (As := []) (rest := []) ⟨hx, hb, hml, hown, hts⟩ (c_BlockDesk_usedPlaces l dC dI s.heap.size a0 a1 a2 a3 a4 rc bg ss hs up ch wr k2 nS f2 hrc (by omega)) (cwV 0 hts g_BlockDesk_record_BlockDesk_usedPlaces rfl rfl rfl (by decide +kernel) ⟨Nat.le_of_ble_eq_true rfl, Nat.le_of_ble_eq_true rfl⟩) ⟨fun a U g mk q => by obtain ⟨q0, q1, qP, qK, qD⟩ := q; exact ⟨q0, q1, qP, va_K.moved (u := U) (U := U.calling g mk a) (Vm.Alike.refl U.vm) qK, qD⟩, va_recv hKc hPc (ci := 0) (q0 := 0) rfl rfl, fun U hU hW => ⟨rfl, by rw [hU], by rw [hU]; exact hPc, va_K.moved hW.alike hKc, hDc.weaken (fun _ _ _ _ => trivial)⟩⟩ rfl rfl hl.1 rfl (lv_room (Nat.le_of_ble_eq_true rfl)) d_BlockDesk_record_10 ⟨(Nat.zero_le _), (Nat.zero_le _)⟩) hS (fun q _ h => hFc q h) hFc (fun r_10 u t H1 locs ht hvm hw hB hz1 hk1 hS => ?_)
    obtain ⟨hP1, hK1, hD1⟩ := hB
    rw [ht] at hP1
    try dsimp only at hw
    obtain ⟨hP, hD⟩ := va_join (wr := [(a1, .inl (k1, nJ, .inl f1)), (a4, .inl (k4, 8000, .inl f4))]) (w1 := [(a0, .inr (0, [.ref a1, .ref a2, .int (nI rc), .int (nI bg), .ref a3, .int (nI ss), .ref a4, .int (nI hs), .int up, .int ch, .int wr])), (a2, .inl (k2, nS, .inl f2))]) hP hD [0, 2] [1, 3] rfl rfl (by decide) (by decide) hk1 hFc hP1 hD1
    generalize H1 = H at hP hS ⊢
    have hP : va_P (dC, dI) classes [(a1, .inl (k1, nJ, .inl f1)), (a4, .inl (k4, 8000, .inl f4)), (a0, .inr (0, [.ref a1, .ref a2, .int (nI rc), .int (nI bg), .ref a3, .int (nI ss), .ref a4, .int (nI hs), .int up, .int ch, .int wr])), (a2, .inl (k2, nS, .inl f2))] H := hP
    have hD : va_D A [(a1, .inl (k1, nJ, .inl f1)), (a4, .inl (k4, 8000, .inl f4)), (a0, .inr (0, [.ref a1, .ref a2, .int (nI rc), .int (nI bg), .ref a3, .int (nI ss), .ref a4, .int (nI hs), .int up, .int ch, .int wr])), (a2, .inl (k2, nS, .inl f2))] := hD
    obtain rfl : r_10 = nI tu := hw.trans htu
    refine lv_istore_n (lv' := [(1, .int (nI tu)), (0, .ref a0)]) hx hb d_BlockDesk_record_13 rfl hl (by decide) rfl (fun ls hl => ?_)
    refine lv_iload_n hx hb d_BlockDesk_record_14 rfl (lv_at hl 0 rfl) ?_
    refine lv_iconst (v := nI 4) hx hb d_BlockDesk_record_15 (by decide +kernel) ?_
    refine lv_iadd hx hb d_BlockDesk_record_16 ?_
    refine xq_top (nI (tu + 4)) (nI_add _ _) ?_
    refine lv_aload_n hx hb d_BlockDesk_record_17 rfl (lv_at hl 1 rfl) ?_
    refine va_get (D := (dC, dI)) (ci := 0) (v := .int (nI hs)) (C := R_BlockDesk) (T := F_BlockDesk) (N := 11) hx hb hts hin0 hown hK hP 2 rfl rfl 7 (by decide) (hts (.fieldLink R_BlockDesk 35 "BlockDesk" "handSize" "I") (by decide +kernel)) (fun _ h9 => h9) rfl d_BlockDesk_record_18 ?_
    refine lv_iadd hx hb d_BlockDesk_record_21 ?_
    refine xq_top (nI (tu + 4 + hs)) (nI_add _ _) ?_
    refine lv_istore_n (lv' := [(2, .int (nI (tu + 4 + hs))), (1, .int (nI tu)), (0, .ref a0)]) hx hb d_BlockDesk_record_22 rfl hl (by decide) rfl (fun ls hl => ?_)
    refine lv_iload_n hx hb d_BlockDesk_record_23 rfl (lv_at hl 0 rfl) ?_
    refine lv_aload_n hx hb d_BlockDesk_record_24 rfl (lv_at hl 2 rfl) ?_
    refine va_get (D := (dC, dI)) (ci := 0) (v := .ref a1) (C := R_BlockDesk) (T := F_BlockDesk) (N := 11) hx hb hts hin0 hown hK hP 2 rfl rfl 0 (by decide) (hts (.fieldLink R_BlockDesk 9 "BlockDesk" "journal" "[B") (by decide +kernel)) (fun _ h9 => h9) rfl d_BlockDesk_record_25 ?_
    refine va_alen (v := nI nJ) hx hb hK hP 0 0 rfl rfl rfl d_BlockDesk_record_28 ?_
    refine lv_icmp_le (tgt := 34) hx hb d_BlockDesk_record_29 (by decide) (fun c_29 => ?_) (fun c_29 => ?_)
    · have c_29 : tu + 4 + hs ≤ nJ := (nI_leI (by omega) (by omega)).mp c_29
      refine lv_iload_n hx hb d_BlockDesk_record_34 rfl (lv_at hl 1 rfl) ?_
      refine lv_sipush (v := nI 500) hx hb d_BlockDesk_record_35 (by decide +kernel) ?_
      refine lv_idiv hx hb d_BlockDesk_record_38 (by decide +kernel) ?_
      refine xq_top (nI (tu / 500)) (pk_div (by omega) (by omega) (by omega)) ?_
      refine lv_istore_n (lv' := [(3, .int (nI (tu / 500))), (2, .int (nI (tu + 4 + hs))), (1, .int (nI tu)), (0, .ref a0)]) hx hb d_BlockDesk_record_39 rfl hl (by decide) rfl (fun ls hl => ?_)
      refine lv_iload_n hx hb d_BlockDesk_record_40 rfl (lv_at hl 1 rfl) ?_
      refine lv_iconst (v := nI 1) hx hb d_BlockDesk_record_41 (by decide +kernel) ?_
      refine lv_isub hx hb d_BlockDesk_record_42 ?_
      refine xq_top (nI (tu + 4 + hs - 1)) (pk_sub (by omega)) ?_
      refine lv_sipush (v := nI 500) hx hb d_BlockDesk_record_43 (by decide +kernel) ?_
      refine lv_idiv hx hb d_BlockDesk_record_46 (by decide +kernel) ?_
      refine xq_top (nI ((tu + 4 + hs - 1) / 500)) (pk_div (by omega) (by omega) (by omega)) ?_
      refine lv_istore (lv' := [(4, .int (nI ((tu + 4 + hs - 1) / 500))), (3, .int (nI (tu / 500))), (2, .int (nI (tu + 4 + hs))), (1, .int (nI tu)), (0, .ref a0)]) hx hb d_BlockDesk_record_47 hl (by decide) rfl (fun ls hl => ?_)
      refine lv_aload_n hx hb d_BlockDesk_record_49 rfl (lv_at hl 4 rfl) ?_
      refine lv_iload hx hb d_BlockDesk_record_50 (lv_at hl 0 rfl) ?_
      refine lv_iload_n hx hb d_BlockDesk_record_52 rfl (lv_at hl 1 rfl) ?_
      refine lv_isub hx hb d_BlockDesk_record_53 ?_
      refine xq_top (nI ((tu + 4 + hs - 1) / 500 - (tu / 500))) (pk_sub (by omega)) ?_
      refine lv_iconst (v := nI 1) hx hb d_BlockDesk_record_54 (by decide +kernel) ?_
      refine lv_iadd hx hb d_BlockDesk_record_55 ?_
      refine xq_top (nI ((tu + 4 + hs - 1) / 500 - (tu / 500) + 1)) (nI_add _ _) ?_
      have hPc := hP.sub (ws' := [(a0, .inr (0, [.ref a1, .ref a2, .int (nI rc), .int (nI bg), .ref a3, .int (nI ss), .ref a4, .int (nI hs), .int up, .int ch, .int wr]))]) [2] rfl
      have hDc := hD.sub (ws' := [(a0, .inr (0, [.ref a1, .ref a2, .int (nI rc), .int (nI bg), .ref a3, .int (nI ss), .ref a4, .int (nI hs), .int up, .int ch, .int wr]))]) [2] (by decide) rfl
      have hKc := hK.sub (tys' := []) [] rfl
      have hFc := va_free (wc := [(a0, .inr (0, [.ref a1, .ref a2, .int (nI rc), .int (nI bg), .ref a3, .int (nI ss), .ref a4, .int (nI hs), .int up, .int ch, .int wr]))]) hD hS hA [2] rfl
      refine va_calli (va_runV (As := [.int (nI ((tu + 4 + hs - 1) / 500 - (tu / 500) + 1))]) (rest := []) ⟨hx, hb, hml, hown, hts⟩ (c_BlockDesk_writeBlocks l dC dI H.size a0 a1 a2 a3 a4 rc bg ss hs up ch wr (nI ((tu + 4 + hs - 1) / 500 - (tu / 500) + 1)) ) (cwV 1 hts g_BlockDesk_record_BlockDesk_writeBlocks rfl rfl rfl (by decide +kernel) ⟨Nat.le_of_ble_eq_true rfl, Nat.le_of_ble_eq_true rfl⟩) ⟨fun a U g mk q => by obtain ⟨q0, q1, qP, qK, qD⟩ := q; exact ⟨q0, q1, qP, va_K.moved (u := U) (U := U.calling g mk a) (Vm.Alike.refl U.vm) qK, qD⟩, va_recv hKc hPc (ci := 0) (q0 := 0) rfl rfl, fun U hU hW => ⟨rfl, by rw [hU], by rw [hU]; exact hPc, va_K.moved hW.alike hKc, hDc.weaken (fun _ _ _ _ => trivial)⟩⟩ rfl rfl hl.1 rfl (lv_room (Nat.le_of_ble_eq_true rfl)) d_BlockDesk_record_56 ⟨(Nat.zero_le _), (Nat.zero_le _)⟩) hS (fun q _ h => hFc q h) hFc (fun r_56 u t H1 locs ht hvm hw hB hz1 hk1 hS => ?_)
      obtain ⟨up1, hs1, ch1, wr1⟩ := u
      obtain ⟨hP1, hK1, hD1⟩ := hB
      rw [ht] at hP1
      try dsimp only at hw
      obtain ⟨hP, hD⟩ := va_join (wr := [(a1, .inl (k1, nJ, .inl f1)), (a4, .inl (k4, 8000, .inl f4)), (a2, .inl (k2, nS, .inl f2))]) (w1 := [(a0, .inr (0, [.ref a1, .ref a2, .int (nI rc), .int (nI bg), .ref a3, .int (nI ss), .ref a4, .int (nI hs1), .int up1, .int ch1, .int wr1]))]) hP hD [2] [0, 1, 3] rfl rfl (by decide) (by decide) hk1 hFc hP1 hD1
      generalize H1 = H at hP hS ⊢
      have hP : va_P (dC, dI) classes [(a1, .inl (k1, nJ, .inl f1)), (a4, .inl (k4, 8000, .inl f4)), (a2, .inl (k2, nS, .inl f2)), (a0, .inr (0, [.ref a1, .ref a2, .int (nI rc), .int (nI bg), .ref a3, .int (nI ss), .ref a4, .int (nI hs1), .int up1, .int ch1, .int wr1]))] H := hP
      have hD : va_D A [(a1, .inl (k1, nJ, .inl f1)), (a4, .inl (k4, 8000, .inl f4)), (a2, .inl (k2, nS, .inl f2)), (a0, .inr (0, [.ref a1, .ref a2, .int (nI rc), .int (nI bg), .ref a3, .int (nI ss), .ref a4, .int (nI hs1), .int up1, .int ch1, .int wr1]))] := hD
      rcases zq_wb_split hw with ⟨rfl, hw⟩ | ⟨rfl, hw⟩
      · have h8 : True := trivial
        refine lv_if_ne (tgt := 64) hx hb d_BlockDesk_record_59 (by decide) (fun c_59 => ?_) (fun c_59 => ?_)
        · exact absurd rfl c_59
        · refine lv_iconst (v := nI 2) hx hb d_BlockDesk_record_62 (by decide +kernel) ?_
          have hP9 := hP.sub (ws' := [(a0, .inr (0, [.ref a1, .ref a2, .int (nI rc), .int (nI bg), .ref a3, .int (nI ss), .ref a4, .int (nI hs1), .int up1, .int ch1, .int wr1])), (a1, .inl (k1, nJ, .inl f1)), (a2, .inl (k2, nS, .inl f2)), (a4, .inl (k4, 8000, .inl f4))]) [3, 0, 2, 1] rfl
          have hD9 := hD.sub (ws' := [(a0, .inr (0, [.ref a1, .ref a2, .int (nI rc), .int (nI bg), .ref a3, .int (nI ss), .ref a4, .int (nI hs1), .int up1, .int ch1, .int wr1])), (a1, .inl (k1, nJ, .inl f1)), (a2, .inl (k2, nS, .inl f2)), (a4, .inl (k4, 8000, .inl f4))]) [3, 0, 2, 1] (by decide) rfl
          have hK9 := hK.sub (tys' := [(k1, .byte), (k2, .int), (k4, .byte)]) [0, 1, 2] rfl
          exact W.iret (v := nI 2) hx hb hr (fun t ht hW => ⟨⟨nI 2, (rc, up1, hs1, ch1, wr1, f1, f2), rfl, Or.inr (Or.inl ⟨c_4, by omega, rfl, up1, hs1, ch1, wr1, hw, rfl⟩), by rw [ht]; exact hP9, va_K.moved hW.alike hK9, hD9⟩, hS.F ht⟩) hS.2.2 d_BlockDesk_record_63
      · have h8 : True := trivial
        have e9 : hs = hs1 := by rcases zq_wb_r hw with ⟨q9, -⟩ | ⟨-, -, q9⟩; exact absurd q9.symm zq_01; exact q9.symm
        subst e9
        have hP : va_P (dC, dI) classes [(a1, .inl (k1, nJ, .inl f1)), (a4, .inl (k4, 8000, .inl f4)), (a2, .inl (k2, nS, .inl f2)), (a0, .inr (0, [.ref a1, .ref a2, .int (nI rc), .int (nI bg), .ref a3, .int (nI ss), .ref a4, .int (nI hs), .int up1, .int ch1, .int wr1]))] H := hP
        have hD : va_D A [(a1, .inl (k1, nJ, .inl f1)), (a4, .inl (k4, 8000, .inl f4)), (a2, .inl (k2, nS, .inl f2)), (a0, .inr (0, [.ref a1, .ref a2, .int (nI rc), .int (nI bg), .ref a3, .int (nI ss), .ref a4, .int (nI hs), .int up1, .int ch1, .int wr1]))] := hD
        refine lv_if_ne (tgt := 64) hx hb d_BlockDesk_record_59 (by decide) (fun c_59 => ?_) (fun c_59 => ?_)
        · refine lv_aload_n hx hb d_BlockDesk_record_64 rfl (lv_at hl 4 rfl) ?_
          refine va_get (D := (dC, dI)) (ci := 0) (v := .ref a4) (C := R_BlockDesk) (T := F_BlockDesk) (N := 11) hx hb hts hin0 hown hK hP 3 rfl rfl 6 (by decide) (hts (.fieldLink R_BlockDesk 20 "BlockDesk" "handBytes" "[B") (by decide +kernel)) (fun _ h9 => h9) rfl d_BlockDesk_record_65 ?_
          refine lv_iconst (v := nI 0) hx hb d_BlockDesk_record_68 (by decide +kernel) ?_
          refine lv_aload_n hx hb d_BlockDesk_record_69 rfl (lv_at hl 4 rfl) ?_
          refine va_get (D := (dC, dI)) (ci := 0) (v := .ref a1) (C := R_BlockDesk) (T := F_BlockDesk) (N := 11) hx hb hts hin0 hown hK hP 3 rfl rfl 0 (by decide) (hts (.fieldLink R_BlockDesk 9 "BlockDesk" "journal" "[B") (by decide +kernel)) (fun _ h9 => h9) rfl d_BlockDesk_record_70 ?_
          refine lv_iload_n hx hb d_BlockDesk_record_73 rfl (lv_at hl 3 rfl) ?_
          refine lv_iconst (v := nI 4) hx hb d_BlockDesk_record_74 (by decide +kernel) ?_
          refine lv_iadd hx hb d_BlockDesk_record_75 ?_
          refine xq_top (nI (tu + 4)) (nI_add _ _) ?_
          refine lv_aload_n hx hb d_BlockDesk_record_76 rfl (lv_at hl 4 rfl) ?_
          refine va_get (D := (dC, dI)) (ci := 0) (v := .int (nI hs)) (C := R_BlockDesk) (T := F_BlockDesk) (N := 11) hx hb hts hin0 hown hK hP 3 rfl rfl 7 (by decide) (hts (.fieldLink R_BlockDesk 35 "BlockDesk" "handSize" "I") (by decide +kernel)) (fun _ h9 => h9) rfl d_BlockDesk_record_77 ?_
          refine va_copyi (ty := .byte) hx hb (hml.trans hl.1.symm) hown (hts (.methodLink R_BlockDesk 51 arraycopyName) (by decide +kernel)) (hts (.native arraycopyName) (by decide +kernel)) (hts (.static arraycopyName) (by decide +kernel)) (hts (.initialized "java/lang/System") (by decide +kernel)) hK hP hD hS 1 0 2 0 rfl rfl rfl rfl rfl (nI_pos (by omega)) (nI_pos (by omega)) (nI_pos (by omega)) (by rw [nI_clamp (by omega), nI_clamp (by omega)]; omega) (by rw [nI_clamp (by omega), nI_clamp (by omega)]; omega) (by rw [nI_clamp (by omega), nI_clamp (by omega)]; intro z hz; rw [Nat.zero_add]; exact hfit z hz) (Nat.le_of_ble_eq_true rfl) (Nat.le_of_ble_eq_true rfl) d_BlockDesk_record_80 (fun H locs hP hD hS => ?_)
          rw [nI_clamp (n := 0) (by omega), nI_clamp (n := tu + 4) (by omega), nI_clamp (n := hs) (by omega)] at hP hD
          have hP : va_P (dC, dI) classes [(a1, .inl (k1, nJ, .inl (va_cpy f4 f1 0 (tu + 4) hs))), (a4, .inl (k4, 8000, .inl f4)), (a2, .inl (k2, nS, .inl f2)), (a0, .inr (0, [.ref a1, .ref a2, .int (nI rc), .int (nI bg), .ref a3, .int (nI ss), .ref a4, .int (nI hs), .int up1, .int ch1, .int wr1]))] H := hP
          have hD : va_D A [(a1, .inl (k1, nJ, .inl (va_cpy f4 f1 0 (tu + 4) hs))), (a4, .inl (k4, 8000, .inl f4)), (a2, .inl (k2, nS, .inl f2)), (a0, .inr (0, [.ref a1, .ref a2, .int (nI rc), .int (nI bg), .ref a3, .int (nI ss), .ref a4, .int (nI hs), .int up1, .int ch1, .int wr1]))] := hD
          refine lv_aload_n hx hb d_BlockDesk_record_83 rfl (lv_at hl 4 rfl) ?_
          refine lv_dup hx hb d_BlockDesk_record_84 rfl ?_
          refine va_get (D := (dC, dI)) (ci := 0) (v := .int (nI rc)) (C := R_BlockDesk) (T := F_BlockDesk) (N := 11) hx hb hts hin0 hown hK hP 3 rfl rfl 2 (by decide) (hts (.fieldLink R_BlockDesk 57 "BlockDesk" "records" "I") (by decide +kernel)) (fun _ h9 => h9) rfl d_BlockDesk_record_85 ?_
          refine lv_iconst (v := nI 1) hx hb d_BlockDesk_record_88 (by decide +kernel) ?_
          refine lv_iadd hx hb d_BlockDesk_record_89 ?_
          refine xq_top (nI (rc + 1)) (nI_add _ _) ?_
          refine va_put (D := (dC, dI)) (ci := 0) (v := .int (nI (rc + 1))) (ty := .int) (C := R_BlockDesk) (T := F_BlockDesk) (N := 11) hx hb hts hin0 t_BlockDesk t_BlockDesk_ok n_BlockDesk hown hK hP hD hS 3 rfl rfl 2 (by decide) (hts (.fieldLink R_BlockDesk 57 "BlockDesk" "records" "I") (by decide +kernel)) (fun _ h9 => h9) rfl (by decide +kernel) rfl rfl (Nat.le_of_ble_eq_true rfl) d_BlockDesk_record_90 (fun H locs hP hD hS => ?_)
          have hP : va_P (dC, dI) classes [(a1, .inl (k1, nJ, .inl (va_cpy f4 f1 0 (tu + 4) hs))), (a4, .inl (k4, 8000, .inl f4)), (a2, .inl (k2, nS, .inl f2)), (a0, .inr (0, [.ref a1, .ref a2, .int (nI (rc + 1)), .int (nI bg), .ref a3, .int (nI ss), .ref a4, .int (nI hs), .int up1, .int ch1, .int wr1]))] H := hP
          have hD : va_D A [(a1, .inl (k1, nJ, .inl (va_cpy f4 f1 0 (tu + 4) hs))), (a4, .inl (k4, 8000, .inl f4)), (a2, .inl (k2, nS, .inl f2)), (a0, .inr (0, [.ref a1, .ref a2, .int (nI (rc + 1)), .int (nI bg), .ref a3, .int (nI ss), .ref a4, .int (nI hs), .int up1, .int ch1, .int wr1]))] := hD
          refine lv_aload_n hx hb d_BlockDesk_record_93 rfl (lv_at hl 4 rfl) ?_
          refine va_get (D := (dC, dI)) (ci := 0) (v := .ref a2) (C := R_BlockDesk) (T := F_BlockDesk) (N := 11) hx hb hts hin0 hown hK hP 3 rfl rfl 1 (by decide) (hts (.fieldLink R_BlockDesk 13 "BlockDesk" "starts" "[I") (by decide +kernel)) (fun _ h9 => h9) rfl d_BlockDesk_record_94 ?_
          refine lv_aload_n hx hb d_BlockDesk_record_97 rfl (lv_at hl 4 rfl) ?_
          refine va_get (D := (dC, dI)) (ci := 0) (v := .int (nI (rc + 1))) (C := R_BlockDesk) (T := F_BlockDesk) (N := 11) hx hb hts hin0 hown hK hP 3 rfl rfl 2 (by decide) (hts (.fieldLink R_BlockDesk 57 "BlockDesk" "records" "I") (by decide +kernel)) (fun _ h9 => h9) rfl d_BlockDesk_record_98 ?_
          refine lv_iload_n hx hb d_BlockDesk_record_101 rfl (lv_at hl 2 rfl) ?_
          refine va_iast hx hb hK hP hD hS 2 1 rfl rfl (vp_in_nI (by omega) (by omega)) d_BlockDesk_record_102 (fun H locs hP hD hS => ?_)
          rw [nI_clamp (n := rc + 1) (by omega)] at hP hD
          have hP : va_P (dC, dI) classes [(a1, .inl (k1, nJ, .inl (va_cpy f4 f1 0 (tu + 4) hs))), (a4, .inl (k4, 8000, .inl f4)), (a2, .inl (k2, nS, .inl (upd f2 (rc + 1) (nI (tu + 4 + hs))))), (a0, .inr (0, [.ref a1, .ref a2, .int (nI (rc + 1)), .int (nI bg), .ref a3, .int (nI ss), .ref a4, .int (nI hs), .int up1, .int ch1, .int wr1]))] H := hP
          have hD : va_D A [(a1, .inl (k1, nJ, .inl (va_cpy f4 f1 0 (tu + 4) hs))), (a4, .inl (k4, 8000, .inl f4)), (a2, .inl (k2, nS, .inl (upd f2 (rc + 1) (nI (tu + 4 + hs))))), (a0, .inr (0, [.ref a1, .ref a2, .int (nI (rc + 1)), .int (nI bg), .ref a3, .int (nI ss), .ref a4, .int (nI hs), .int up1, .int ch1, .int wr1]))] := hD
          refine lv_aload_n hx hb d_BlockDesk_record_103 rfl (lv_at hl 4 rfl) ?_
          refine lv_iconst (v := nI 0) hx hb d_BlockDesk_record_104 (by decide +kernel) ?_
          refine va_put (D := (dC, dI)) (ci := 0) (v := .int (nI 0)) (ty := .int) (C := R_BlockDesk) (T := F_BlockDesk) (N := 11) hx hb hts hin0 t_BlockDesk t_BlockDesk_ok n_BlockDesk hown hK hP hD hS 3 rfl rfl 7 (by decide) (hts (.fieldLink R_BlockDesk 35 "BlockDesk" "handSize" "I") (by decide +kernel)) (fun _ h9 => h9) rfl (by decide +kernel) rfl rfl (Nat.le_of_ble_eq_true rfl) d_BlockDesk_record_105 (fun H locs hP hD hS => ?_)
          have hP : va_P (dC, dI) classes [(a1, .inl (k1, nJ, .inl (va_cpy f4 f1 0 (tu + 4) hs))), (a4, .inl (k4, 8000, .inl f4)), (a2, .inl (k2, nS, .inl (upd f2 (rc + 1) (nI (tu + 4 + hs))))), (a0, .inr (0, [.ref a1, .ref a2, .int (nI (rc + 1)), .int (nI bg), .ref a3, .int (nI ss), .ref a4, .int (nI 0), .int up1, .int ch1, .int wr1]))] H := hP
          have hD : va_D A [(a1, .inl (k1, nJ, .inl (va_cpy f4 f1 0 (tu + 4) hs))), (a4, .inl (k4, 8000, .inl f4)), (a2, .inl (k2, nS, .inl (upd f2 (rc + 1) (nI (tu + 4 + hs))))), (a0, .inr (0, [.ref a1, .ref a2, .int (nI (rc + 1)), .int (nI bg), .ref a3, .int (nI ss), .ref a4, .int (nI 0), .int up1, .int ch1, .int wr1]))] := hD
          refine lv_iconst (v := nI 1) hx hb d_BlockDesk_record_108 (by decide +kernel) ?_
          have hP9 := hP.sub (ws' := [(a0, .inr (0, [.ref a1, .ref a2, .int (nI (rc + 1)), .int (nI bg), .ref a3, .int (nI ss), .ref a4, .int (nI 0), .int up1, .int ch1, .int wr1])), (a1, .inl (k1, nJ, .inl (va_cpy f4 f1 0 (tu + 4) hs))), (a2, .inl (k2, nS, .inl (upd f2 (rc + 1) (nI (tu + 4 + hs))))), (a4, .inl (k4, 8000, .inl f4))]) [3, 0, 2, 1] rfl
          have hD9 := hD.sub (ws' := [(a0, .inr (0, [.ref a1, .ref a2, .int (nI (rc + 1)), .int (nI bg), .ref a3, .int (nI ss), .ref a4, .int (nI 0), .int up1, .int ch1, .int wr1])), (a1, .inl (k1, nJ, .inl (va_cpy f4 f1 0 (tu + 4) hs))), (a2, .inl (k2, nS, .inl (upd f2 (rc + 1) (nI (tu + 4 + hs))))), (a4, .inl (k4, 8000, .inl f4))]) [3, 0, 2, 1] (by decide) rfl
          have hK9 := hK.sub (tys' := [(k1, .byte), (k2, .int), (k4, .byte)]) [0, 1, 2] rfl
          exact W.iret (v := nI 1) hx hb hr (fun t ht hW => ⟨⟨nI 1, (rc + 1, up1, 0, ch1, wr1, va_cpy f4 f1 0 (tu + 4) hs, upd f2 (rc + 1) (nI (tu + 4 + hs))), rfl, Or.inr (Or.inr ⟨c_4, by omega, rfl, up1, ch1, wr1, _, hw, zq_app_cpy, rfl⟩), by rw [ht]; exact hP9, va_K.moved hW.alike hK9, hD9⟩, hS.F ht⟩) hS.2.2 d_BlockDesk_record_109
        · exact absurd c_59 (xq_n0 (by omega) (by omega))
    · have c_29 : ¬ (tu + 4 + hs ≤ nJ) := fun h9 => c_29 ((nI_leI (by omega) (by omega)).mpr h9)
      refine lv_iconst (v := nI 0) hx hb d_BlockDesk_record_32 (by decide +kernel) ?_
      have hP9 := hP.sub (ws' := [(a0, .inr (0, [.ref a1, .ref a2, .int (nI rc), .int (nI bg), .ref a3, .int (nI ss), .ref a4, .int (nI hs), .int up, .int ch, .int wr])), (a1, .inl (k1, nJ, .inl f1)), (a2, .inl (k2, nS, .inl f2)), (a4, .inl (k4, 8000, .inl f4))]) [2, 0, 3, 1] rfl
      have hD9 := hD.sub (ws' := [(a0, .inr (0, [.ref a1, .ref a2, .int (nI rc), .int (nI bg), .ref a3, .int (nI ss), .ref a4, .int (nI hs), .int up, .int ch, .int wr])), (a1, .inl (k1, nJ, .inl f1)), (a2, .inl (k2, nS, .inl f2)), (a4, .inl (k4, 8000, .inl f4))]) [2, 0, 3, 1] (by decide) rfl
      have hK9 := hK.sub (tys' := [(k1, .byte), (k2, .int), (k4, .byte)]) [0, 1, 2] rfl
      exact W.iret (v := nI 0) hx hb hr (fun t ht hW => ⟨⟨nI 0, (rc, up, hs, ch, wr, f1, f2), rfl, Or.inl ⟨by first | exact Or.inl c_4 | exact Or.inr (by omega), rfl, rfl⟩, by rw [ht]; exact hP9, va_K.moved hW.alike hK9, hD9⟩, hS.F ht⟩) hS.2.2 d_BlockDesk_record_33
  · refine lv_iconst (v := nI 0) hx hb d_BlockDesk_record_7 (by decide +kernel) ?_
    have hP9 := hP.sub (ws' := [(a0, .inr (0, [.ref a1, .ref a2, .int (nI rc), .int (nI bg), .ref a3, .int (nI ss), .ref a4, .int (nI hs), .int up, .int ch, .int wr])), (a1, .inl (k1, nJ, .inl f1)), (a2, .inl (k2, nS, .inl f2)), (a4, .inl (k4, 8000, .inl f4))]) [0, 1, 2, 3] rfl
    have hD9 := hD.sub (ws' := [(a0, .inr (0, [.ref a1, .ref a2, .int (nI rc), .int (nI bg), .ref a3, .int (nI ss), .ref a4, .int (nI hs), .int up, .int ch, .int wr])), (a1, .inl (k1, nJ, .inl f1)), (a2, .inl (k2, nS, .inl f2)), (a4, .inl (k4, 8000, .inl f4))]) [0, 1, 2, 3] (by decide) rfl
    have hK9 := hK.sub (tys' := [(k1, .byte), (k2, .int), (k4, .byte)]) [0, 1, 2] rfl
    exact W.iret (v := nI 0) hx hb hr (fun t ht hW => ⟨⟨nI 0, (rc, up, hs, ch, wr, f1, f2), rfl, Or.inl ⟨by first | exact Or.inl c_4 | exact Or.inr (by omega), rfl, rfl⟩, by rw [ht]; exact hP9, va_K.moved hW.alike hK9, hD9⟩, hS.F ht⟩) hS.2.2 d_BlockDesk_record_8
set_option maxHeartbeats 4000000 in
set_option maxRecDepth 100000 in
theorem c_BlockDesk_snapshot (l : Launch) (dC : Nat → ClassId) (dI : Nat → Nat → Nat) (sz : Nat) (a0 : Nat) (a1 : Nat) (a2 : Nat) (a3 : Nat) (a4 : Nat) (rc : Nat) (bg : Nat) (ss : Nat) (hs : Nat) (up : Int32) (ch : Int32) (wr : Int32) (k2 : ClassId) (nS : Nat) (tu : Nat) (f2 : Nat → Int32) (hrc : rc < nS) (hnS : nS ≤ 4001) (htu : f2 rc = nI tu) (htb : tu ≤ 16000) (hhs : hs ≤ 8000) : Met l y_BlockDesk_snapshot w_BlockDesk_snapshot ({ frames := 2, cells := 0, slots := 0, locals := 46 }) (va_Pc [.ref a0] (fun U => U.heap.size = sz ∧ va_P (dC, dI) classes [(a0, .inr (0, [.ref a1, .ref a2, .int (nI rc), .int (nI bg), .ref a3, .int (nI ss), .ref a4, .int (nI hs), .int up, .int ch, .int wr])), (a2, .inl (k2, nS, .inl f2))] U.heap ∧ va_K (dC, dI) classes [(k2, .int)] U ∧ va_D (fun _ => True) [(a0, .inr (0, [.ref a1, .ref a2, .int (nI rc), .int (nI bg), .ref a3, .int (nI ss), .ref a4, .int (nI hs), .int up, .int ch, .int wr])), (a2, .inl (k2, nS, .inl f2))])) (va_Qi (fun (r : Int32) (u : Nat × Nat × Nat × Nat × Nat × Int32 × Nat × Int32 × Int32) => (up = 0 ∧ r = nI 0 ∧ u = (rc, bg, ss, a3, a4, up, hs, ch, wr)) ∨ (¬ up = 0 ∧ r = nI 2 ∧ ∃ (up1 : Int32) (hs1 : Nat) (ch1 wr1 : Int32), (nI 0, up1, hs1, ch1, wr1) = zq_wb up hs ch wr (nI ((hs + 500 - 1) / 500 + 1)) ∧ u = (rc, bg, ss, a3, a4, up1, hs1, ch1, wr1)) ∨ (¬ up = 0 ∧ r = nI 1 ∧ ∃ (up1 ch1 wr1 : Int32), (nI 1, up1, hs, ch1, wr1) = zq_wb up hs ch wr (nI ((hs + 500 - 1) / 500 + 1)) ∧ u = (0, bg + (tu + 500 - 1) / 500 * 500, hs, a4, a3, up1, 0, ch1, wr1))) (fun (u : Nat × Nat × Nat × Nat × Nat × Int32 × Nat × Int32 × Int32) (t : State) => match u with | (rc', bg', ss', a3', a4', up', hs', ch', wr') => va_P (dC, dI) classes [(a0, .inr (0, [.ref a1, .ref a2, .int (nI rc'), .int (nI bg'), .ref a3', .int (nI ss'), .ref a4', .int (nI hs'), .int up', .int ch', .int wr'])), (a2, .inl (k2, nS, .inl f2))] t.heap ∧ va_K (dC, dI) classes [(k2, .int)] t ∧ va_D (va_A [(a0, .inr (0, [.ref a1, .ref a2, .int (nI rc), .int (nI bg), .ref a3, .int (nI ss), .ref a4, .int (nI hs), .int up, .int ch, .int wr])), (a2, .inl (k2, nS, .inl f2))] sz) [(a0, .inr (0, [.ref a1, .ref a2, .int (nI rc'), .int (nI bg'), .ref a3', .int (nI ss'), .ref a4', .int (nI hs'), .int up', .int ch', .int wr'])), (a2, .inl (k2, nS, .inl f2))]) (va_A [(a0, .inr (0, [.ref a1, .ref a2, .int (nI rc), .int (nI bg), .ref a3, .int (nI ss), .ref a4, .int (nI hs), .int up, .int ch, .int wr])), (a2, .inl (k2, nS, .inl f2))] sz)) 0 0 (va_A [(a0, .inr (0, [.ref a1, .ref a2, .int (nI rc), .int (nI bg), .ref a3, .int (nI ss), .ref a4, .int (nI hs), .int up, .int ch, .int wr])), (a2, .inl (k2, nS, .inl f2))] sz) := by
  refine Met.ofW (cc := b_BlockDesk_snapshot) (maxL := 1) (ret := (some .int)) (by decide) rfl ?_
  intro p e s m args below meth c s₁ B hml hv
  obtain ⟨rfl, hsz, hP, hK, hD0⟩ := hv
  have hx := B.exec
  have hb := B.bytes
  have hr := B.returns
  have hts := atoms_spec (ws := w_BlockDesk_snapshot) B.pre
  have hown : s.vm.findClass R_BlockDesk = some m.cls := findClass_of_methodNamed B.named
  have hlocks := B.notSynchronized
  subst hsz
  have hD := hD0.self (sz := s.heap.size)
  generalize hAe : va_A [(a0, .inr (0, [.ref a1, .ref a2, .int (nI rc), .int (nI bg), .ref a3, .int (nI ss), .ref a4, .int (nI hs), .int up, .int ch, .int wr])), (a2, .inl (k2, nS, .inl f2))] s.heap.size = A at hD ⊢
  have hA : ∀ q : Nat, s.heap.size ≤ q → A q := fun q h => by rw [← hAe]; exact Or.inr h
  have hS : va_S A s.heap s.heap [] := va_S.rf
  have hP : va_P (dC, dI) classes [(a0, .inr (0, [.ref a1, .ref a2, .int (nI rc), .int (nI bg), .ref a3, .int (nI ss), .ref a4, .int (nI hs), .int up, .int ch, .int wr])), (a2, .inl (k2, nS, .inl f2))] s.heap := hP
  have hin0 : ∀ w ∈ u_ws R_BlockDesk F_BlockDesk 11, w ∈ w_BlockDesk_snapshot := by decide +kernel
  have hl := lv_entry ([.ref a0]) (n := 1) (Nat.le_of_ble_eq_true rfl)
  rw [lg_entry_eq]
  generalize (lg_sl ([.ref a0]) ++ List.replicate (1 - (lg_sl ([.ref a0])).length) Slot.unset).toArray = ls at hl ⊢
  have hl : lv_has ls 1 [(0, .ref a0)] := hl
  refine lv_aload_n hx hb d_BlockDesk_snapshot_0 rfl (lv_at hl 0 rfl) ?_
  refine va_get (D := (dC, dI)) (ci := 0) (v := .int up) (C := R_BlockDesk) (T := F_BlockDesk) (N := 11) hx hb hts hin0 hown hK hP 0 rfl rfl 8 (by decide) (hts (.fieldLink R_BlockDesk 23 "BlockDesk" "up" "Z") (by decide +kernel)) (fun _ h9 => h9) rfl d_BlockDesk_snapshot_1 ?_
  refine lv_if_ne (tgt := 9) hx hb d_BlockDesk_snapshot_4 (by decide) (fun c_4 => ?_) (fun c_4 => ?_)
  · refine lv_aload_n hx hb d_BlockDesk_snapshot_9 rfl (lv_at hl 0 rfl) ?_
    refine lv_aload_n hx hb d_BlockDesk_snapshot_10 rfl (lv_at hl 0 rfl) ?_
    refine va_get (D := (dC, dI)) (ci := 0) (v := .int (nI hs)) (C := R_BlockDesk) (T := F_BlockDesk) (N := 11) hx hb hts hin0 hown hK hP 0 rfl rfl 7 (by decide) (hts (.fieldLink R_BlockDesk 35 "BlockDesk" "handSize" "I") (by decide +kernel)) (fun _ h9 => h9) rfl d_BlockDesk_snapshot_11 ?_
    have hPc := hP.sub (ws' := []) [] rfl
    have hDc := hD.sub (ws' := []) [] (by decide) rfl
    have hKc := hK.sub (tys' := []) [] rfl
    have hFc := va_free (wc := []) hD hS hA [] rfl
    refine va_calli (va_runS (As := [.int (nI hs)]) (rest := [.ref a0]) ⟨hx, hb, hml, hown, hts⟩ (c_BlockDesk_blocksFor l dC dI s.heap.size hs (by omega)) (va_cwS 1 hts g_BlockDesk_snapshot_BlockDesk_blocksFor rfl rfl rfl (by decide +kernel) ⟨Nat.le_of_ble_eq_true rfl, Nat.le_of_ble_eq_true rfl⟩) ⟨fun a U g mk q => by obtain ⟨q0, q1, qP, qK, qD⟩ := q; exact ⟨q0, q1, qP, va_K.moved (u := U) (U := U.calling g mk a) (Vm.Alike.refl U.vm) qK, qD⟩, fun U hU hW => ⟨rfl, by rw [hU], by rw [hU]; exact hPc, va_K.moved hW.alike hKc, hDc.weaken (fun _ _ _ _ => trivial)⟩⟩ rfl rfl hl.1 rfl (lv_room (Nat.le_of_ble_eq_true rfl)) d_BlockDesk_snapshot_14 ⟨(Nat.zero_le _), (Nat.zero_le _)⟩) hS (fun q _ h => hFc q h) hFc (fun r_14 u t H1 locs ht hvm hw hB hz1 hk1 hS => ?_)
    obtain ⟨hP1, hK1, hD1⟩ := hB
    rw [ht] at hP1
    try dsimp only at hw
    obtain ⟨hP, hD⟩ := va_join (wr := [(a0, .inr (0, [.ref a1, .ref a2, .int (nI rc), .int (nI bg), .ref a3, .int (nI ss), .ref a4, .int (nI hs), .int up, .int ch, .int wr])), (a2, .inl (k2, nS, .inl f2))]) (w1 := []) hP hD [] [0, 1] rfl rfl (by decide) (by decide) hk1 hFc hP1 hD1
    generalize H1 = H at hP hS ⊢
    have hP : va_P (dC, dI) classes [(a0, .inr (0, [.ref a1, .ref a2, .int (nI rc), .int (nI bg), .ref a3, .int (nI ss), .ref a4, .int (nI hs), .int up, .int ch, .int wr])), (a2, .inl (k2, nS, .inl f2))] H := hP
    have hD : va_D A [(a0, .inr (0, [.ref a1, .ref a2, .int (nI rc), .int (nI bg), .ref a3, .int (nI ss), .ref a4, .int (nI hs), .int up, .int ch, .int wr])), (a2, .inl (k2, nS, .inl f2))] := hD
    obtain rfl : r_14 = nI ((hs + 500 - 1) / 500) := hw
    refine lv_iconst (v := nI 1) hx hb d_BlockDesk_snapshot_17 (by decide +kernel) ?_
    refine lv_iadd hx hb d_BlockDesk_snapshot_18 ?_
    refine xq_top (nI ((hs + 500 - 1) / 500 + 1)) (nI_add _ _) ?_
    have hPc := hP.sub (ws' := [(a0, .inr (0, [.ref a1, .ref a2, .int (nI rc), .int (nI bg), .ref a3, .int (nI ss), .ref a4, .int (nI hs), .int up, .int ch, .int wr]))]) [0] rfl
    have hDc := hD.sub (ws' := [(a0, .inr (0, [.ref a1, .ref a2, .int (nI rc), .int (nI bg), .ref a3, .int (nI ss), .ref a4, .int (nI hs), .int up, .int ch, .int wr]))]) [0] (by decide) rfl
    have hKc := hK.sub (tys' := []) [] rfl
    have hFc := va_free (wc := [(a0, .inr (0, [.ref a1, .ref a2, .int (nI rc), .int (nI bg), .ref a3, .int (nI ss), .ref a4, .int (nI hs), .int up, .int ch, .int wr]))]) hD hS hA [0] rfl
    refine va_calli (va_runV (As := [.int (nI ((hs + 500 - 1) / 500 + 1))]) (rest := []) ⟨hx, hb, hml, hown, hts⟩ (c_BlockDesk_writeBlocks l dC dI H.size a0 a1 a2 a3 a4 rc bg ss hs up ch wr (nI ((hs + 500 - 1) / 500 + 1)) ) (cwV 1 hts g_BlockDesk_snapshot_BlockDesk_writeBlocks rfl rfl rfl (by decide +kernel) ⟨Nat.le_of_ble_eq_true rfl, Nat.le_of_ble_eq_true rfl⟩) ⟨fun a U g mk q => by obtain ⟨q0, q1, qP, qK, qD⟩ := q; exact ⟨q0, q1, qP, va_K.moved (u := U) (U := U.calling g mk a) (Vm.Alike.refl U.vm) qK, qD⟩, va_recv hKc hPc (ci := 0) (q0 := 0) rfl rfl, fun U hU hW => ⟨rfl, by rw [hU], by rw [hU]; exact hPc, va_K.moved hW.alike hKc, hDc.weaken (fun _ _ _ _ => trivial)⟩⟩ rfl rfl hl.1 rfl (lv_room (Nat.le_of_ble_eq_true rfl)) d_BlockDesk_snapshot_19 ⟨(Nat.zero_le _), (Nat.zero_le _)⟩) hS (fun q _ h => hFc q h) hFc (fun r_19 u t H1 locs ht hvm hw hB hz1 hk1 hS => ?_)
    obtain ⟨up1, hs1, ch1, wr1⟩ := u
    obtain ⟨hP1, hK1, hD1⟩ := hB
    rw [ht] at hP1
    try dsimp only at hw
    obtain ⟨hP, hD⟩ := va_join (wr := [(a2, .inl (k2, nS, .inl f2))]) (w1 := [(a0, .inr (0, [.ref a1, .ref a2, .int (nI rc), .int (nI bg), .ref a3, .int (nI ss), .ref a4, .int (nI hs1), .int up1, .int ch1, .int wr1]))]) hP hD [0] [1] rfl rfl (by decide) (by decide) hk1 hFc hP1 hD1
    generalize H1 = H at hP hS ⊢
    have hP : va_P (dC, dI) classes [(a2, .inl (k2, nS, .inl f2)), (a0, .inr (0, [.ref a1, .ref a2, .int (nI rc), .int (nI bg), .ref a3, .int (nI ss), .ref a4, .int (nI hs1), .int up1, .int ch1, .int wr1]))] H := hP
    have hD : va_D A [(a2, .inl (k2, nS, .inl f2)), (a0, .inr (0, [.ref a1, .ref a2, .int (nI rc), .int (nI bg), .ref a3, .int (nI ss), .ref a4, .int (nI hs1), .int up1, .int ch1, .int wr1]))] := hD
    rcases zq_wb_split hw with ⟨rfl, hw⟩ | ⟨rfl, hw⟩
    · have h8 : True := trivial
      refine lv_if_ne (tgt := 27) hx hb d_BlockDesk_snapshot_22 (by decide) (fun c_22 => ?_) (fun c_22 => ?_)
      · exact absurd rfl c_22
      · refine lv_iconst (v := nI 2) hx hb d_BlockDesk_snapshot_25 (by decide +kernel) ?_
        have hP9 := hP.sub (ws' := [(a0, .inr (0, [.ref a1, .ref a2, .int (nI rc), .int (nI bg), .ref a3, .int (nI ss), .ref a4, .int (nI hs1), .int up1, .int ch1, .int wr1])), (a2, .inl (k2, nS, .inl f2))]) [1, 0] rfl
        have hD9 := hD.sub (ws' := [(a0, .inr (0, [.ref a1, .ref a2, .int (nI rc), .int (nI bg), .ref a3, .int (nI ss), .ref a4, .int (nI hs1), .int up1, .int ch1, .int wr1])), (a2, .inl (k2, nS, .inl f2))]) [1, 0] (by decide) rfl
        have hK9 := hK.sub (tys' := [(k2, .int)]) [0] rfl
        exact W.iret (v := nI 2) hx hb hr (fun t ht hW => ⟨⟨nI 2, (rc, bg, ss, a3, a4, up1, hs1, ch1, wr1), rfl, Or.inr (Or.inl ⟨c_4, rfl, up1, hs1, ch1, wr1, hw, rfl⟩), by rw [ht]; exact hP9, va_K.moved hW.alike hK9, hD9⟩, hS.F ht⟩) hS.2.2 d_BlockDesk_snapshot_26
    · have h8 : True := trivial
      have e9 : hs = hs1 := by rcases zq_wb_r hw with ⟨q9, -⟩ | ⟨-, -, q9⟩; exact absurd q9.symm zq_01; exact q9.symm
      subst e9
      have hP : va_P (dC, dI) classes [(a2, .inl (k2, nS, .inl f2)), (a0, .inr (0, [.ref a1, .ref a2, .int (nI rc), .int (nI bg), .ref a3, .int (nI ss), .ref a4, .int (nI hs), .int up1, .int ch1, .int wr1]))] H := hP
      have hD : va_D A [(a2, .inl (k2, nS, .inl f2)), (a0, .inr (0, [.ref a1, .ref a2, .int (nI rc), .int (nI bg), .ref a3, .int (nI ss), .ref a4, .int (nI hs), .int up1, .int ch1, .int wr1]))] := hD
      refine lv_if_ne (tgt := 27) hx hb d_BlockDesk_snapshot_22 (by decide) (fun c_22 => ?_) (fun c_22 => ?_)
      · refine lv_aload_n hx hb d_BlockDesk_snapshot_27 rfl (lv_at hl 0 rfl) ?_
        have hw9 := hw
        have hPc := hP.sub (ws' := [(a0, .inr (0, [.ref a1, .ref a2, .int (nI rc), .int (nI bg), .ref a3, .int (nI ss), .ref a4, .int (nI hs), .int up1, .int ch1, .int wr1]))]) [1] rfl
        have hDc := hD.sub (ws' := [(a0, .inr (0, [.ref a1, .ref a2, .int (nI rc), .int (nI bg), .ref a3, .int (nI ss), .ref a4, .int (nI hs), .int up1, .int ch1, .int wr1]))]) [1] (by decide) rfl
        have hKc := hK.sub (tys' := []) [] rfl
        have hFc := va_free (wc := [(a0, .inr (0, [.ref a1, .ref a2, .int (nI rc), .int (nI bg), .ref a3, .int (nI ss), .ref a4, .int (nI hs), .int up1, .int ch1, .int wr1]))]) hD hS hA [1] rfl
        refine va_callv (va_runV (As := []) (rest := []) ⟨hx, hb, hml, hown, hts⟩ (c_BlockDesk_takeHandAsSnapshot l dC dI H.size a0 a1 a2 a3 a4 rc bg ss hs up1 ch1 wr1 ) (cwV 0 hts g_BlockDesk_snapshot_BlockDesk_takeHandAsSnapshot rfl rfl rfl (by decide +kernel) ⟨Nat.le_of_ble_eq_true rfl, Nat.le_of_ble_eq_true rfl⟩) ⟨fun a U g mk q => by obtain ⟨q0, q1, qP, qK, qD⟩ := q; exact ⟨q0, q1, qP, va_K.moved (u := U) (U := U.calling g mk a) (Vm.Alike.refl U.vm) qK, qD⟩, va_recv hKc hPc (ci := 0) (q0 := 0) rfl rfl, fun U hU hW => ⟨rfl, by rw [hU], by rw [hU]; exact hPc, va_K.moved hW.alike hKc, hDc.weaken (fun _ _ _ _ => trivial)⟩⟩ rfl rfl hl.1 rfl (lv_room (Nat.le_of_ble_eq_true rfl)) d_BlockDesk_snapshot_28 ⟨(Nat.zero_le _), (Nat.zero_le _)⟩) hS (fun q _ h => hFc q h) hFc (fun u t H1 locs ht hvm hw hB hz1 hk1 hS => ?_)
        obtain ⟨hP1, hK1, hD1⟩ := hB
        rw [ht] at hP1
        try dsimp only at hw
        obtain ⟨hP, hD⟩ := va_join (wr := [(a2, .inl (k2, nS, .inl f2))]) (w1 := [(a0, .inr (0, [.ref a1, .ref a2, .int (nI rc), .int (nI bg), .ref a4, .int (nI hs), .ref a3, .int (nI 0), .int up1, .int ch1, .int wr1]))]) hP hD [1] [0] rfl rfl (by decide) (by decide) hk1 hFc hP1 hD1
        generalize H1 = H at hP hS ⊢
        have hP : va_P (dC, dI) classes [(a2, .inl (k2, nS, .inl f2)), (a0, .inr (0, [.ref a1, .ref a2, .int (nI rc), .int (nI bg), .ref a4, .int (nI hs), .ref a3, .int (nI 0), .int up1, .int ch1, .int wr1]))] H := hP
        have hD : va_D A [(a2, .inl (k2, nS, .inl f2)), (a0, .inr (0, [.ref a1, .ref a2, .int (nI rc), .int (nI bg), .ref a4, .int (nI hs), .ref a3, .int (nI 0), .int up1, .int ch1, .int wr1]))] := hD
        refine lv_aload_n hx hb d_BlockDesk_snapshot_31 rfl (lv_at hl 0 rfl) ?_
        have hPc := hP.sub (ws' := [(a0, .inr (0, [.ref a1, .ref a2, .int (nI rc), .int (nI bg), .ref a4, .int (nI hs), .ref a3, .int (nI 0), .int up1, .int ch1, .int wr1])), (a2, .inl (k2, nS, .inl f2))]) [1, 0] rfl
        have hDc := hD.sub (ws' := [(a0, .inr (0, [.ref a1, .ref a2, .int (nI rc), .int (nI bg), .ref a4, .int (nI hs), .ref a3, .int (nI 0), .int up1, .int ch1, .int wr1])), (a2, .inl (k2, nS, .inl f2))]) [1, 0] (by decide) rfl
        have hKc := hK.sub (tys' := [(k2, .int)]) [0] rfl
        have hFc := va_free (wc := [(a0, .inr (0, [.ref a1, .ref a2, .int (nI rc), .int (nI bg), .ref a4, .int (nI hs), .ref a3, .int (nI 0), .int up1, .int ch1, .int wr1])), (a2, .inl (k2, nS, .inl f2))]) hD hS hA [1, 0] rfl
        refine va_callv (va_runV (As := []) (rest := []) ⟨hx, hb, hml, hown, hts⟩ (c_BlockDesk_beginJournalAnew l dC dI H.size a0 a1 a2 a4 a3 rc bg hs 0 up1 ch1 wr1 k2 nS tu f2 hrc hnS htu htb) (cwV 0 hts g_BlockDesk_snapshot_BlockDesk_beginJournalAnew rfl rfl rfl (by decide +kernel) ⟨Nat.le_of_ble_eq_true rfl, Nat.le_of_ble_eq_true rfl⟩) ⟨fun a U g mk q => by obtain ⟨q0, q1, qP, qK, qD⟩ := q; exact ⟨q0, q1, qP, va_K.moved (u := U) (U := U.calling g mk a) (Vm.Alike.refl U.vm) qK, qD⟩, va_recv hKc hPc (ci := 0) (q0 := 0) rfl rfl, fun U hU hW => ⟨rfl, by rw [hU], by rw [hU]; exact hPc, va_K.moved hW.alike hKc, hDc.weaken (fun _ _ _ _ => trivial)⟩⟩ rfl rfl hl.1 rfl (lv_room (Nat.le_of_ble_eq_true rfl)) d_BlockDesk_snapshot_32 ⟨(Nat.zero_le _), (Nat.zero_le _)⟩) hS (fun q _ h => hFc q h) hFc (fun u t H1 locs ht hvm hw hB hz1 hk1 hS => ?_)
        obtain ⟨hP1, hK1, hD1⟩ := hB
        rw [ht] at hP1
        try dsimp only at hw
        obtain ⟨hP, hD⟩ := va_join (wr := []) (w1 := [(a0, .inr (0, [.ref a1, .ref a2, .int (nI 0), .int (nI (bg + (tu + 500 - 1) / 500 * 500)), .ref a4, .int (nI hs), .ref a3, .int (nI 0), .int up1, .int ch1, .int wr1])), (a2, .inl (k2, nS, .inl f2))]) hP hD [1, 0] [] rfl rfl (by decide) (by decide) hk1 hFc hP1 hD1
        generalize H1 = H at hP hS ⊢
        have hP : va_P (dC, dI) classes [(a0, .inr (0, [.ref a1, .ref a2, .int (nI 0), .int (nI (bg + (tu + 500 - 1) / 500 * 500)), .ref a4, .int (nI hs), .ref a3, .int (nI 0), .int up1, .int ch1, .int wr1])), (a2, .inl (k2, nS, .inl f2))] H := hP
        have hD : va_D A [(a0, .inr (0, [.ref a1, .ref a2, .int (nI 0), .int (nI (bg + (tu + 500 - 1) / 500 * 500)), .ref a4, .int (nI hs), .ref a3, .int (nI 0), .int up1, .int ch1, .int wr1])), (a2, .inl (k2, nS, .inl f2))] := hD
        refine lv_iconst (v := nI 1) hx hb d_BlockDesk_snapshot_35 (by decide +kernel) ?_
        have hP9 := hP.sub (ws' := [(a0, .inr (0, [.ref a1, .ref a2, .int (nI 0), .int (nI (bg + (tu + 500 - 1) / 500 * 500)), .ref a4, .int (nI hs), .ref a3, .int (nI 0), .int up1, .int ch1, .int wr1])), (a2, .inl (k2, nS, .inl f2))]) [0, 1] rfl
        have hD9 := hD.sub (ws' := [(a0, .inr (0, [.ref a1, .ref a2, .int (nI 0), .int (nI (bg + (tu + 500 - 1) / 500 * 500)), .ref a4, .int (nI hs), .ref a3, .int (nI 0), .int up1, .int ch1, .int wr1])), (a2, .inl (k2, nS, .inl f2))]) [0, 1] (by decide) rfl
        have hK9 := hK.sub (tys' := [(k2, .int)]) [0] rfl
        exact W.iret (v := nI 1) hx hb hr (fun t ht hW => ⟨⟨nI 1, (0, bg + (tu + 500 - 1) / 500 * 500, hs, a4, a3, up1, 0, ch1, wr1), rfl, Or.inr (Or.inr ⟨c_4, rfl, up1, ch1, wr1, hw9, rfl⟩), by rw [ht]; exact hP9, va_K.moved hW.alike hK9, hD9⟩, hS.F ht⟩) hS.2.2 d_BlockDesk_snapshot_36
      · exact absurd c_22 (xq_n0 (by omega) (by omega))
  · refine lv_iconst (v := nI 0) hx hb d_BlockDesk_snapshot_7 (by decide +kernel) ?_
    have hP9 := hP.sub (ws' := [(a0, .inr (0, [.ref a1, .ref a2, .int (nI rc), .int (nI bg), .ref a3, .int (nI ss), .ref a4, .int (nI hs), .int up, .int ch, .int wr])), (a2, .inl (k2, nS, .inl f2))]) [0, 1] rfl
    have hD9 := hD.sub (ws' := [(a0, .inr (0, [.ref a1, .ref a2, .int (nI rc), .int (nI bg), .ref a3, .int (nI ss), .ref a4, .int (nI hs), .int up, .int ch, .int wr])), (a2, .inl (k2, nS, .inl f2))]) [0, 1] (by decide) rfl
    have hK9 := hK.sub (tys' := [(k2, .int)]) [0] rfl
    exact W.iret (v := nI 0) hx hb hr (fun t ht hW => ⟨⟨nI 0, (rc, bg, ss, a3, a4, up, hs, ch, wr), rfl, Or.inl ⟨c_4, rfl, rfl⟩, by rw [ht]; exact hP9, va_K.moved hW.alike hK9, hD9⟩, hS.F ht⟩) hS.2.2 d_BlockDesk_snapshot_8
