set_option maxHeartbeats 4000000 in
set_option maxRecDepth 100000 in
theorem c_BlockDesk_init (l : Launch) (dC : Nat → ClassId) (dI : Nat → Nat → Nat) (sz : Nat) (a0 : Nat) (n : Int32)  : Met l y_BlockDesk_init w_BlockDesk_init ({ frames := 1, cells := 4, slots := 36001, locals := 22 }) (va_Pc [.ref a0, .int n] (fun U => U.heap.size = sz ∧ va_P (dC, dI) classes [(a0, .inr (0, [.null, .null, .int (nI 0), .int (nI 0), .null, .int (nI 0), .null, .int (nI 0), .int (nI 0), .int (nI 0), .int (nI 0)]))] U.heap ∧ va_K (dC, dI) classes [] U ∧ va_D (fun _ => True) [(a0, .inr (0, [.null, .null, .int (nI 0), .int (nI 0), .null, .int (nI 0), .null, .int (nI 0), .int (nI 0), .int (nI 0), .int (nI 0)]))])) (va_Qv (fun (_ : Nat × Nat × Nat × Nat × ClassId × ClassId × ClassId × ClassId) => True) (fun (u : Nat × Nat × Nat × Nat × ClassId × ClassId × ClassId × ClassId) (t : State) => match u with | (a1, a2, a3, a4, k1, k2, k3, k4) => va_P (dC, dI) classes [(a0, .inr (0, [.ref a1, .ref a2, .int (nI 0), .int (nI 0), .ref a3, .int (nI 0), .ref a4, .int (nI 0), .int (nI 1), .int (-1), .int (nI 0)])), (a1, .inl (k1, 500 * zq_nN n, .inl (fun _ => 0))), (a2, .inl (k2, 125 * zq_nN n + 1, .inl (fun _ => 0))), (a3, .inl (k3, 8000, .inl (fun _ => 0))), (a4, .inl (k4, 8000, .inl (fun _ => 0)))] t.heap ∧ va_K (dC, dI) classes [(k1, .byte), (k2, .int), (k3, .byte), (k4, .byte)] t ∧ va_D (va_A [(a0, .inr (0, [.null, .null, .int (nI 0), .int (nI 0), .null, .int (nI 0), .null, .int (nI 0), .int (nI 0), .int (nI 0), .int (nI 0)]))] sz) [(a0, .inr (0, [.ref a1, .ref a2, .int (nI 0), .int (nI 0), .ref a3, .int (nI 0), .ref a4, .int (nI 0), .int (nI 1), .int (-1), .int (nI 0)])), (a1, .inl (k1, 500 * zq_nN n, .inl (fun _ => 0))), (a2, .inl (k2, 125 * zq_nN n + 1, .inl (fun _ => 0))), (a3, .inl (k3, 8000, .inl (fun _ => 0))), (a4, .inl (k4, 8000, .inl (fun _ => 0)))]) (va_A [(a0, .inr (0, [.null, .null, .int (nI 0), .int (nI 0), .null, .int (nI 0), .null, .int (nI 0), .int (nI 0), .int (nI 0), .int (nI 0)]))] sz)) 4 36001 (va_A [(a0, .inr (0, [.null, .null, .int (nI 0), .int (nI 0), .null, .int (nI 0), .null, .int (nI 0), .int (nI 0), .int (nI 0), .int (nI 0)]))] sz) := by
  refine Met.ofW (cc := b_BlockDesk_init) (maxL := 4) (ret := none) (by decide) rfl ?_
  intro p e s m args below meth c s₁ B hml hv
  obtain ⟨rfl, hsz, hP, hK, hD0⟩ := hv
  have hx := B.exec
  have hb := B.bytes
  have hr := B.returns
  have hts := atoms_spec (ws := w_BlockDesk_init) B.pre
  have hown : s.vm.findClass R_BlockDesk = some m.cls := findClass_of_methodNamed B.named
  have hlocks := B.notSynchronized
  have hin : meth.name = "<init>" := (name_of_methodNamed B.named B.method).1
  subst hsz
  have hD := hD0.self (sz := s.heap.size)
  generalize hAe : va_A [(a0, .inr (0, [.null, .null, .int (nI 0), .int (nI 0), .null, .int (nI 0), .null, .int (nI 0), .int (nI 0), .int (nI 0), .int (nI 0)]))] s.heap.size = A at hD ⊢
  have hA : ∀ q : Nat, s.heap.size ≤ q → A q := fun q h => by rw [← hAe]; exact Or.inr h
  have hS : va_S A s.heap s.heap [] := va_S.rf
  have hP : va_P (dC, dI) classes [(a0, .inr (0, [.null, .null, .int (nI 0), .int (nI 0), .null, .int (nI 0), .null, .int (nI 0), .int (nI 0), .int (nI 0), .int (nI 0)]))] s.heap := hP
  have hin0 : ∀ w ∈ u_ws R_BlockDesk F_BlockDesk 11, w ∈ w_BlockDesk_init := by decide +kernel
  have hl := lv_entry ([.ref a0, .int n]) (n := 4) (Nat.le_of_ble_eq_true rfl)
  rw [lg_entry_eq]
  generalize (lg_sl ([.ref a0, .int n]) ++ List.replicate (4 - (lg_sl ([.ref a0, .int n])).length) Slot.unset).toArray = ls at hl ⊢
  have hl : lv_has ls 4 [(0, .ref a0), (1, .int n)] := hl
  obtain ⟨hN2, hN32⟩ := zq_nN_in n
  refine lv_aload_n hx hb d_BlockDesk_init_0 rfl (lv_at hl 0 rfl) ?_
  refine W.objInit hx hb hown (hts (.methodLink R_BlockDesk 1 objectInit) (by decide +kernel)) (hts (.instanceMethod objectInit) (by decide +kernel)) (hts _ (List.mem_of_getElem? (i := 3) rfl)) rfl (by rw [hml]; exact hl.1) rfl d_BlockDesk_init_1 (Nat.le_of_ble_eq_true rfl) (Nat.le_of_ble_eq_true rfl) ?_
  refine W.eq (g2 := F0 m 4 ls []) rfl ?_
  refine lv_iload_n hx hb d_BlockDesk_init_4 rfl (lv_at hl 1 rfl) ?_
  refine lv_iconst (v := nI 2) hx hb d_BlockDesk_init_5 (by decide +kernel) ?_
  refine lv_icmp_lt (tgt := 19) hx hb d_BlockDesk_init_6 (by decide) (fun c_6 => ?_) (fun c_6 => ?_)
  · have c_6 : n.toInt < ((2 : Nat) : Int) := (xq_lt_r (by omega)).mp c_6
    refine lv_iconst (v := nI 0) hx hb d_BlockDesk_init_19 (by decide +kernel) ?_
    refine lv_istore_n (lv' := [(2, .int (nI 0)), (0, .ref a0), (1, .int n)]) hx hb d_BlockDesk_init_20 rfl hl (by decide) rfl (fun ls hl => ?_)
    refine lv_iload_n hx hb d_BlockDesk_init_21 rfl (lv_at hl 0 rfl) ?_
    refine lv_if_eq (tgt := 29) hx hb d_BlockDesk_init_22 (by decide) (fun c_22 => ?_) (fun c_22 => ?_)
    · refine lv_bipush (v := nI 32) hx hb d_BlockDesk_init_29 (by decide +kernel) ?_
      refine xq_top (nI (zq_nN n)) (congrArg nI (zq_nN_b (by omega))) ?_
      refine lv_sipush (v := nI 500) hx hb d_BlockDesk_init_31 (by decide +kernel) ?_
      refine lv_imul hx hb d_BlockDesk_init_34 ?_
      refine xq_top (nI ((zq_nN n) * 500)) (pk_mul _ _) ?_
      refine xq_top (nI (500 * zq_nN n)) (congrArg nI (by omega)) ?_
      refine lv_istore_n (lv' := [(3, .int (nI (500 * zq_nN n))), (2, .int (nI 0)), (0, .ref a0), (1, .int n)]) hx hb d_BlockDesk_init_35 rfl hl (by decide) rfl (fun ls hl => ?_)
      refine lv_aload_n hx hb d_BlockDesk_init_36 rfl (lv_at hl 2 rfl) ?_
      refine lv_iload_n hx hb d_BlockDesk_init_37 rfl (lv_at hl 0 rfl) ?_
      refine va_newa (atype := .byte) (ty := .byte) (N' := 500 * zq_nN n) (a0 := (500 * zq_nN n, .inl (fun _ => 0))) hx hb (hts (.arrayClass .byte) (by decide +kernel)) rfl hK hP hD hS hA (fun _ => rfl) (nI_pos (by omega)) (nI_clamp (by omega)) (show (500 * zq_nN n) * 1 ≤ 536870912 by omega) (show 0 + 1 ≤ 4 by omega) (show 0 + (500 * zq_nN n) ≤ 36001 by omega) d_BlockDesk_init_38 (fun q1 k1 H hK hP hD hS => ?_)
      have hK : va_K (dC, dI) classes [(k1, .byte)] s := hK
      have hP : va_P (dC, dI) classes [(a0, .inr (0, [.null, .null, .int (nI 0), .int (nI 0), .null, .int (nI 0), .null, .int (nI 0), .int (nI 0), .int (nI 0), .int (nI 0)])), (q1, .inl (k1, 500 * zq_nN n, .inl (fun _ => 0)))] H := hP
      have hD : va_D A [(a0, .inr (0, [.null, .null, .int (nI 0), .int (nI 0), .null, .int (nI 0), .null, .int (nI 0), .int (nI 0), .int (nI 0), .int (nI 0)])), (q1, .inl (k1, 500 * zq_nN n, .inl (fun _ => 0)))] := hD
      refine W.widen (k := 1) (n := 16000) (by omega) (by omega) ?_
      refine va_putF (D := (dC, dI)) (ci := 0) (v := .ref q1) (ty := (.array .byte)) (C := R_BlockDesk) (T := F_BlockDesk) (N := 11) hx hb hts hin0 t_BlockDesk t_BlockDesk_ok n_BlockDesk hown hK hP hD hS 0 rfl rfl 0 (by decide) (hts (.fieldLink R_BlockDesk 9 "BlockDesk" "journal" "[B") (by decide +kernel)) (fun _ h9 => h9) rfl hin rfl (by decide +kernel) rfl rfl (Nat.le_of_ble_eq_true rfl) d_BlockDesk_init_40 (fun H locs hP hD hS => ?_)
      have hP : va_P (dC, dI) classes [(a0, .inr (0, [.ref q1, .null, .int (nI 0), .int (nI 0), .null, .int (nI 0), .null, .int (nI 0), .int (nI 0), .int (nI 0), .int (nI 0)])), (q1, .inl (k1, 500 * zq_nN n, .inl (fun _ => 0)))] H := hP
      have hD : va_D A [(a0, .inr (0, [.ref q1, .null, .int (nI 0), .int (nI 0), .null, .int (nI 0), .null, .int (nI 0), .int (nI 0), .int (nI 0), .int (nI 0)])), (q1, .inl (k1, 500 * zq_nN n, .inl (fun _ => 0)))] := hD
      refine lv_aload_n hx hb d_BlockDesk_init_43 rfl (lv_at hl 2 rfl) ?_
      refine lv_iload_n hx hb d_BlockDesk_init_44 rfl (lv_at hl 0 rfl) ?_
      refine lv_iconst (v := nI 4) hx hb d_BlockDesk_init_45 (by decide +kernel) ?_
      refine lv_idiv hx hb d_BlockDesk_init_46 (by decide +kernel) ?_
      refine xq_top (nI ((500 * zq_nN n) / 4)) (pk_div (by omega) (by omega) (by omega)) ?_
      refine lv_iconst (v := nI 1) hx hb d_BlockDesk_init_47 (by decide +kernel) ?_
      refine lv_iadd hx hb d_BlockDesk_init_48 ?_
      refine xq_top (nI ((500 * zq_nN n) / 4 + 1)) (nI_add _ _) ?_
      refine xq_top (nI (125 * zq_nN n + 1)) (congrArg nI (by omega)) ?_
      refine va_newa (atype := .int) (ty := .int) (N' := 125 * zq_nN n + 1) (a0 := (125 * zq_nN n + 1, .inl (fun _ => 0))) hx hb (hts (.arrayClass .int) (by decide +kernel)) rfl hK hP hD hS hA (fun _ => rfl) (nI_pos (by omega)) (nI_clamp (by omega)) (show (125 * zq_nN n + 1) * 4 ≤ 536870912 by omega) (show 1 + 1 ≤ 4 by omega) (show 16000 + (125 * zq_nN n + 1) ≤ 36001 by omega) d_BlockDesk_init_49 (fun q2 k2 H hK hP hD hS => ?_)
      have hK : va_K (dC, dI) classes [(k1, .byte), (k2, .int)] s := hK
      have hP : va_P (dC, dI) classes [(a0, .inr (0, [.ref q1, .null, .int (nI 0), .int (nI 0), .null, .int (nI 0), .null, .int (nI 0), .int (nI 0), .int (nI 0), .int (nI 0)])), (q1, .inl (k1, 500 * zq_nN n, .inl (fun _ => 0))), (q2, .inl (k2, 125 * zq_nN n + 1, .inl (fun _ => 0)))] H := hP
      have hD : va_D A [(a0, .inr (0, [.ref q1, .null, .int (nI 0), .int (nI 0), .null, .int (nI 0), .null, .int (nI 0), .int (nI 0), .int (nI 0), .int (nI 0)])), (q1, .inl (k1, 500 * zq_nN n, .inl (fun _ => 0))), (q2, .inl (k2, 125 * zq_nN n + 1, .inl (fun _ => 0)))] := hD
      refine W.widen (k := 2) (n := 20001) (by omega) (by omega) ?_
      refine va_putF (D := (dC, dI)) (ci := 0) (v := .ref q2) (ty := (.array .int)) (C := R_BlockDesk) (T := F_BlockDesk) (N := 11) hx hb hts hin0 t_BlockDesk t_BlockDesk_ok n_BlockDesk hown hK hP hD hS 0 rfl rfl 1 (by decide) (hts (.fieldLink R_BlockDesk 13 "BlockDesk" "starts" "[I") (by decide +kernel)) (fun _ h9 => h9) rfl hin rfl (by decide +kernel) rfl rfl (Nat.le_of_ble_eq_true rfl) d_BlockDesk_init_51 (fun H locs hP hD hS => ?_)
      have hP : va_P (dC, dI) classes [(a0, .inr (0, [.ref q1, .ref q2, .int (nI 0), .int (nI 0), .null, .int (nI 0), .null, .int (nI 0), .int (nI 0), .int (nI 0), .int (nI 0)])), (q1, .inl (k1, 500 * zq_nN n, .inl (fun _ => 0))), (q2, .inl (k2, 125 * zq_nN n + 1, .inl (fun _ => 0)))] H := hP
      have hD : va_D A [(a0, .inr (0, [.ref q1, .ref q2, .int (nI 0), .int (nI 0), .null, .int (nI 0), .null, .int (nI 0), .int (nI 0), .int (nI 0), .int (nI 0)])), (q1, .inl (k1, 500 * zq_nN n, .inl (fun _ => 0))), (q2, .inl (k2, 125 * zq_nN n + 1, .inl (fun _ => 0)))] := hD
      refine lv_aload_n hx hb d_BlockDesk_init_54 rfl (lv_at hl 2 rfl) ?_
      refine lv_sipush (v := nI 8000) hx hb d_BlockDesk_init_55 (by decide +kernel) ?_
      refine va_newa (atype := .byte) (ty := .byte) (N' := 8000) (a0 := (8000, .inl (fun _ => 0))) hx hb (hts (.arrayClass .byte) (by decide +kernel)) rfl hK hP hD hS hA (fun _ => rfl) (nI_pos (by omega)) (nI_clamp (by omega)) (show (8000) * 1 ≤ 536870912 by omega) (show 2 + 1 ≤ 4 by omega) (show 20001 + (8000) ≤ 36001 by omega) d_BlockDesk_init_58 (fun q3 k3 H hK hP hD hS => ?_)
      have hK : va_K (dC, dI) classes [(k1, .byte), (k2, .int), (k3, .byte)] s := hK
      have hP : va_P (dC, dI) classes [(a0, .inr (0, [.ref q1, .ref q2, .int (nI 0), .int (nI 0), .null, .int (nI 0), .null, .int (nI 0), .int (nI 0), .int (nI 0), .int (nI 0)])), (q1, .inl (k1, 500 * zq_nN n, .inl (fun _ => 0))), (q2, .inl (k2, 125 * zq_nN n + 1, .inl (fun _ => 0))), (q3, .inl (k3, 8000, .inl (fun _ => 0)))] H := hP
      have hD : va_D A [(a0, .inr (0, [.ref q1, .ref q2, .int (nI 0), .int (nI 0), .null, .int (nI 0), .null, .int (nI 0), .int (nI 0), .int (nI 0), .int (nI 0)])), (q1, .inl (k1, 500 * zq_nN n, .inl (fun _ => 0))), (q2, .inl (k2, 125 * zq_nN n + 1, .inl (fun _ => 0))), (q3, .inl (k3, 8000, .inl (fun _ => 0)))] := hD
      refine W.widen (k := 3) (n := 28001) (by omega) (by omega) ?_
      refine va_put (D := (dC, dI)) (ci := 0) (v := .ref q3) (ty := (.array .byte)) (C := R_BlockDesk) (T := F_BlockDesk) (N := 11) hx hb hts hin0 t_BlockDesk t_BlockDesk_ok n_BlockDesk hown hK hP hD hS 0 rfl rfl 4 (by decide) (hts (.fieldLink R_BlockDesk 17 "BlockDesk" "snapshotBytes" "[B") (by decide +kernel)) (fun _ h9 => h9) rfl (by decide +kernel) rfl rfl (Nat.le_of_ble_eq_true rfl) d_BlockDesk_init_60 (fun H locs hP hD hS => ?_)
      have hP : va_P (dC, dI) classes [(a0, .inr (0, [.ref q1, .ref q2, .int (nI 0), .int (nI 0), .ref q3, .int (nI 0), .null, .int (nI 0), .int (nI 0), .int (nI 0), .int (nI 0)])), (q1, .inl (k1, 500 * zq_nN n, .inl (fun _ => 0))), (q2, .inl (k2, 125 * zq_nN n + 1, .inl (fun _ => 0))), (q3, .inl (k3, 8000, .inl (fun _ => 0)))] H := hP
      have hD : va_D A [(a0, .inr (0, [.ref q1, .ref q2, .int (nI 0), .int (nI 0), .ref q3, .int (nI 0), .null, .int (nI 0), .int (nI 0), .int (nI 0), .int (nI 0)])), (q1, .inl (k1, 500 * zq_nN n, .inl (fun _ => 0))), (q2, .inl (k2, 125 * zq_nN n + 1, .inl (fun _ => 0))), (q3, .inl (k3, 8000, .inl (fun _ => 0)))] := hD
      refine lv_aload_n hx hb d_BlockDesk_init_63 rfl (lv_at hl 2 rfl) ?_
      refine lv_sipush (v := nI 8000) hx hb d_BlockDesk_init_64 (by decide +kernel) ?_
      refine va_newa (atype := .byte) (ty := .byte) (N' := 8000) (a0 := (8000, .inl (fun _ => 0))) hx hb (hts (.arrayClass .byte) (by decide +kernel)) rfl hK hP hD hS hA (fun _ => rfl) (nI_pos (by omega)) (nI_clamp (by omega)) (show (8000) * 1 ≤ 536870912 by omega) (show 3 + 1 ≤ 4 by omega) (show 28001 + (8000) ≤ 36001 by omega) d_BlockDesk_init_67 (fun q4 k4 H hK hP hD hS => ?_)
      have hK : va_K (dC, dI) classes [(k1, .byte), (k2, .int), (k3, .byte), (k4, .byte)] s := hK
      have hP : va_P (dC, dI) classes [(a0, .inr (0, [.ref q1, .ref q2, .int (nI 0), .int (nI 0), .ref q3, .int (nI 0), .null, .int (nI 0), .int (nI 0), .int (nI 0), .int (nI 0)])), (q1, .inl (k1, 500 * zq_nN n, .inl (fun _ => 0))), (q2, .inl (k2, 125 * zq_nN n + 1, .inl (fun _ => 0))), (q3, .inl (k3, 8000, .inl (fun _ => 0))), (q4, .inl (k4, 8000, .inl (fun _ => 0)))] H := hP
      have hD : va_D A [(a0, .inr (0, [.ref q1, .ref q2, .int (nI 0), .int (nI 0), .ref q3, .int (nI 0), .null, .int (nI 0), .int (nI 0), .int (nI 0), .int (nI 0)])), (q1, .inl (k1, 500 * zq_nN n, .inl (fun _ => 0))), (q2, .inl (k2, 125 * zq_nN n + 1, .inl (fun _ => 0))), (q3, .inl (k3, 8000, .inl (fun _ => 0))), (q4, .inl (k4, 8000, .inl (fun _ => 0)))] := hD
      refine W.widen (k := 4) (n := 36001) (by omega) (by omega) ?_
      refine va_put (D := (dC, dI)) (ci := 0) (v := .ref q4) (ty := (.array .byte)) (C := R_BlockDesk) (T := F_BlockDesk) (N := 11) hx hb hts hin0 t_BlockDesk t_BlockDesk_ok n_BlockDesk hown hK hP hD hS 0 rfl rfl 6 (by decide) (hts (.fieldLink R_BlockDesk 20 "BlockDesk" "handBytes" "[B") (by decide +kernel)) (fun _ h9 => h9) rfl (by decide +kernel) rfl rfl (Nat.le_of_ble_eq_true rfl) d_BlockDesk_init_69 (fun H locs hP hD hS => ?_)
      have hP : va_P (dC, dI) classes [(a0, .inr (0, [.ref q1, .ref q2, .int (nI 0), .int (nI 0), .ref q3, .int (nI 0), .ref q4, .int (nI 0), .int (nI 0), .int (nI 0), .int (nI 0)])), (q1, .inl (k1, 500 * zq_nN n, .inl (fun _ => 0))), (q2, .inl (k2, 125 * zq_nN n + 1, .inl (fun _ => 0))), (q3, .inl (k3, 8000, .inl (fun _ => 0))), (q4, .inl (k4, 8000, .inl (fun _ => 0)))] H := hP
      have hD : va_D A [(a0, .inr (0, [.ref q1, .ref q2, .int (nI 0), .int (nI 0), .ref q3, .int (nI 0), .ref q4, .int (nI 0), .int (nI 0), .int (nI 0), .int (nI 0)])), (q1, .inl (k1, 500 * zq_nN n, .inl (fun _ => 0))), (q2, .inl (k2, 125 * zq_nN n + 1, .inl (fun _ => 0))), (q3, .inl (k3, 8000, .inl (fun _ => 0))), (q4, .inl (k4, 8000, .inl (fun _ => 0)))] := hD
      refine lv_aload_n hx hb d_BlockDesk_init_72 rfl (lv_at hl 2 rfl) ?_
      refine lv_iconst (v := nI 1) hx hb d_BlockDesk_init_73 (by decide +kernel) ?_
      refine va_put (D := (dC, dI)) (ci := 0) (v := .int (nI 1)) (ty := .boolean) (C := R_BlockDesk) (T := F_BlockDesk) (N := 11) hx hb hts hin0 t_BlockDesk t_BlockDesk_ok n_BlockDesk hown hK hP hD hS 0 rfl rfl 8 (by decide) (hts (.fieldLink R_BlockDesk 23 "BlockDesk" "up" "Z") (by decide +kernel)) (fun _ h9 => h9) rfl (by decide +kernel) zq_nb1 zq_fb1 (Nat.le_of_ble_eq_true rfl) d_BlockDesk_init_74 (fun H locs hP hD hS => ?_)
      have hP : va_P (dC, dI) classes [(a0, .inr (0, [.ref q1, .ref q2, .int (nI 0), .int (nI 0), .ref q3, .int (nI 0), .ref q4, .int (nI 0), .int (nI 1), .int (nI 0), .int (nI 0)])), (q1, .inl (k1, 500 * zq_nN n, .inl (fun _ => 0))), (q2, .inl (k2, 125 * zq_nN n + 1, .inl (fun _ => 0))), (q3, .inl (k3, 8000, .inl (fun _ => 0))), (q4, .inl (k4, 8000, .inl (fun _ => 0)))] H := hP
      have hD : va_D A [(a0, .inr (0, [.ref q1, .ref q2, .int (nI 0), .int (nI 0), .ref q3, .int (nI 0), .ref q4, .int (nI 0), .int (nI 1), .int (nI 0), .int (nI 0)])), (q1, .inl (k1, 500 * zq_nN n, .inl (fun _ => 0))), (q2, .inl (k2, 125 * zq_nN n + 1, .inl (fun _ => 0))), (q3, .inl (k3, 8000, .inl (fun _ => 0))), (q4, .inl (k4, 8000, .inl (fun _ => 0)))] := hD
      refine lv_aload_n hx hb d_BlockDesk_init_77 rfl (lv_at hl 2 rfl) ?_
      refine lv_iconst (v := (-1)) hx hb d_BlockDesk_init_78 (by decide +kernel) ?_
      refine va_put (D := (dC, dI)) (ci := 0) (v := .int (-1)) (ty := .int) (C := R_BlockDesk) (T := F_BlockDesk) (N := 11) hx hb hts hin0 t_BlockDesk t_BlockDesk_ok n_BlockDesk hown hK hP hD hS 0 rfl rfl 9 (by decide) (hts (.fieldLink R_BlockDesk 27 "BlockDesk" "charge" "I") (by decide +kernel)) (fun _ h9 => h9) rfl (by decide +kernel) rfl rfl (Nat.le_of_ble_eq_true rfl) d_BlockDesk_init_79 (fun H locs hP hD hS => ?_)
      have hP : va_P (dC, dI) classes [(a0, .inr (0, [.ref q1, .ref q2, .int (nI 0), .int (nI 0), .ref q3, .int (nI 0), .ref q4, .int (nI 0), .int (nI 1), .int (-1), .int (nI 0)])), (q1, .inl (k1, 500 * zq_nN n, .inl (fun _ => 0))), (q2, .inl (k2, 125 * zq_nN n + 1, .inl (fun _ => 0))), (q3, .inl (k3, 8000, .inl (fun _ => 0))), (q4, .inl (k4, 8000, .inl (fun _ => 0)))] H := hP
      have hD : va_D A [(a0, .inr (0, [.ref q1, .ref q2, .int (nI 0), .int (nI 0), .ref q3, .int (nI 0), .ref q4, .int (nI 0), .int (nI 1), .int (-1), .int (nI 0)])), (q1, .inl (k1, 500 * zq_nN n, .inl (fun _ => 0))), (q2, .inl (k2, 125 * zq_nN n + 1, .inl (fun _ => 0))), (q3, .inl (k3, 8000, .inl (fun _ => 0))), (q4, .inl (k4, 8000, .inl (fun _ => 0)))] := hD
      have hP9 := hP.sub (ws' := [(a0, .inr (0, [.ref q1, .ref q2, .int (nI 0), .int (nI 0), .ref q3, .int (nI 0), .ref q4, .int (nI 0), .int (nI 1), .int (-1), .int (nI 0)])), (q1, .inl (k1, 500 * zq_nN n, .inl (fun _ => 0))), (q2, .inl (k2, 125 * zq_nN n + 1, .inl (fun _ => 0))), (q3, .inl (k3, 8000, .inl (fun _ => 0))), (q4, .inl (k4, 8000, .inl (fun _ => 0)))]) [0, 1, 2, 3, 4] rfl
      have hD9 := hD.sub (ws' := [(a0, .inr (0, [.ref q1, .ref q2, .int (nI 0), .int (nI 0), .ref q3, .int (nI 0), .ref q4, .int (nI 0), .int (nI 1), .int (-1), .int (nI 0)])), (q1, .inl (k1, 500 * zq_nN n, .inl (fun _ => 0))), (q2, .inl (k2, 125 * zq_nN n + 1, .inl (fun _ => 0))), (q3, .inl (k3, 8000, .inl (fun _ => 0))), (q4, .inl (k4, 8000, .inl (fun _ => 0)))]) [0, 1, 2, 3, 4] (by decide) rfl
      have hK9 := hK.sub (tys' := [(k1, .byte), (k2, .int), (k3, .byte), (k4, .byte)]) [0, 1, 2, 3] rfl
      exact W.vret hx hb hr (fun t ht hW => ⟨⟨(q1, q2, q3, q4, k1, k2, k3, k4), rfl, trivial, by rw [ht]; exact hP9, va_K.moved hW.alike hK9, hD9⟩, hS.F ht⟩) hS.2.2 d_BlockDesk_init_82
    · exact absurd rfl c_22
  · have c_6 : ¬ (n.toInt < ((2 : Nat) : Int)) := fun h9 => c_6 ((xq_lt_r (by omega)).mpr h9)
    refine lv_iload_n hx hb d_BlockDesk_init_9 rfl (lv_at hl 1 rfl) ?_
    refine lv_bipush (v := nI 32) hx hb d_BlockDesk_init_10 (by decide +kernel) ?_
    refine lv_icmp_gt (tgt := 19) hx hb d_BlockDesk_init_12 (by decide) (fun c_12 => ?_) (fun c_12 => ?_)
    · have c_12 : ((32 : Nat) : Int) < n.toInt := (xq_lt_l (by omega)).mp c_12
      refine lv_iconst (v := nI 0) hx hb d_BlockDesk_init_19 (by decide +kernel) ?_
      refine lv_istore_n (lv' := [(2, .int (nI 0)), (0, .ref a0), (1, .int n)]) hx hb d_BlockDesk_init_20 rfl hl (by decide) rfl (fun ls hl => ?_)
      refine lv_iload_n hx hb d_BlockDesk_init_21 rfl (lv_at hl 0 rfl) ?_
      refine lv_if_eq (tgt := 29) hx hb d_BlockDesk_init_22 (by decide) (fun c_22 => ?_) (fun c_22 => ?_)
      · refine lv_bipush (v := nI 32) hx hb d_BlockDesk_init_29 (by decide +kernel) ?_
        refine xq_top (nI (zq_nN n)) (congrArg nI (zq_nN_b (by omega))) ?_
        refine lv_sipush (v := nI 500) hx hb d_BlockDesk_init_31 (by decide +kernel) ?_
        refine lv_imul hx hb d_BlockDesk_init_34 ?_
        refine xq_top (nI ((zq_nN n) * 500)) (pk_mul _ _) ?_
        refine xq_top (nI (500 * zq_nN n)) (congrArg nI (by omega)) ?_
        refine lv_istore_n (lv' := [(3, .int (nI (500 * zq_nN n))), (2, .int (nI 0)), (0, .ref a0), (1, .int n)]) hx hb d_BlockDesk_init_35 rfl hl (by decide) rfl (fun ls hl => ?_)
        refine lv_aload_n hx hb d_BlockDesk_init_36 rfl (lv_at hl 2 rfl) ?_
        refine lv_iload_n hx hb d_BlockDesk_init_37 rfl (lv_at hl 0 rfl) ?_
        refine va_newa (atype := .byte) (ty := .byte) (N' := 500 * zq_nN n) (a0 := (500 * zq_nN n, .inl (fun _ => 0))) hx hb (hts (.arrayClass .byte) (by decide +kernel)) rfl hK hP hD hS hA (fun _ => rfl) (nI_pos (by omega)) (nI_clamp (by omega)) (show (500 * zq_nN n) * 1 ≤ 536870912 by omega) (show 0 + 1 ≤ 4 by omega) (show 0 + (500 * zq_nN n) ≤ 36001 by omega) d_BlockDesk_init_38 (fun q1 k1 H hK hP hD hS => ?_)
        have hK : va_K (dC, dI) classes [(k1, .byte)] s := hK
        have hP : va_P (dC, dI) classes [(a0, .inr (0, [.null, .null, .int (nI 0), .int (nI 0), .null, .int (nI 0), .null, .int (nI 0), .int (nI 0), .int (nI 0), .int (nI 0)])), (q1, .inl (k1, 500 * zq_nN n, .inl (fun _ => 0)))] H := hP
        have hD : va_D A [(a0, .inr (0, [.null, .null, .int (nI 0), .int (nI 0), .null, .int (nI 0), .null, .int (nI 0), .int (nI 0), .int (nI 0), .int (nI 0)])), (q1, .inl (k1, 500 * zq_nN n, .inl (fun _ => 0)))] := hD
        refine W.widen (k := 1) (n := 16000) (by omega) (by omega) ?_
        refine va_putF (D := (dC, dI)) (ci := 0) (v := .ref q1) (ty := (.array .byte)) (C := R_BlockDesk) (T := F_BlockDesk) (N := 11) hx hb hts hin0 t_BlockDesk t_BlockDesk_ok n_BlockDesk hown hK hP hD hS 0 rfl rfl 0 (by decide) (hts (.fieldLink R_BlockDesk 9 "BlockDesk" "journal" "[B") (by decide +kernel)) (fun _ h9 => h9) rfl hin rfl (by decide +kernel) rfl rfl (Nat.le_of_ble_eq_true rfl) d_BlockDesk_init_40 (fun H locs hP hD hS => ?_)
        have hP : va_P (dC, dI) classes [(a0, .inr (0, [.ref q1, .null, .int (nI 0), .int (nI 0), .null, .int (nI 0), .null, .int (nI 0), .int (nI 0), .int (nI 0), .int (nI 0)])), (q1, .inl (k1, 500 * zq_nN n, .inl (fun _ => 0)))] H := hP
        have hD : va_D A [(a0, .inr (0, [.ref q1, .null, .int (nI 0), .int (nI 0), .null, .int (nI 0), .null, .int (nI 0), .int (nI 0), .int (nI 0), .int (nI 0)])), (q1, .inl (k1, 500 * zq_nN n, .inl (fun _ => 0)))] := hD
        refine lv_aload_n hx hb d_BlockDesk_init_43 rfl (lv_at hl 2 rfl) ?_
        refine lv_iload_n hx hb d_BlockDesk_init_44 rfl (lv_at hl 0 rfl) ?_
        refine lv_iconst (v := nI 4) hx hb d_BlockDesk_init_45 (by decide +kernel) ?_
        refine lv_idiv hx hb d_BlockDesk_init_46 (by decide +kernel) ?_
        refine xq_top (nI ((500 * zq_nN n) / 4)) (pk_div (by omega) (by omega) (by omega)) ?_
        refine lv_iconst (v := nI 1) hx hb d_BlockDesk_init_47 (by decide +kernel) ?_
        refine lv_iadd hx hb d_BlockDesk_init_48 ?_
        refine xq_top (nI ((500 * zq_nN n) / 4 + 1)) (nI_add _ _) ?_
        refine xq_top (nI (125 * zq_nN n + 1)) (congrArg nI (by omega)) ?_
        refine va_newa (atype := .int) (ty := .int) (N' := 125 * zq_nN n + 1) (a0 := (125 * zq_nN n + 1, .inl (fun _ => 0))) hx hb (hts (.arrayClass .int) (by decide +kernel)) rfl hK hP hD hS hA (fun _ => rfl) (nI_pos (by omega)) (nI_clamp (by omega)) (show (125 * zq_nN n + 1) * 4 ≤ 536870912 by omega) (show 1 + 1 ≤ 4 by omega) (show 16000 + (125 * zq_nN n + 1) ≤ 36001 by omega) d_BlockDesk_init_49 (fun q2 k2 H hK hP hD hS => ?_)
        have hK : va_K (dC, dI) classes [(k1, .byte), (k2, .int)] s := hK
        have hP : va_P (dC, dI) classes [(a0, .inr (0, [.ref q1, .null, .int (nI 0), .int (nI 0), .null, .int (nI 0), .null, .int (nI 0), .int (nI 0), .int (nI 0), .int (nI 0)])), (q1, .inl (k1, 500 * zq_nN n, .inl (fun _ => 0))), (q2, .inl (k2, 125 * zq_nN n + 1, .inl (fun _ => 0)))] H := hP
        have hD : va_D A [(a0, .inr (0, [.ref q1, .null, .int (nI 0), .int (nI 0), .null, .int (nI 0), .null, .int (nI 0), .int (nI 0), .int (nI 0), .int (nI 0)])), (q1, .inl (k1, 500 * zq_nN n, .inl (fun _ => 0))), (q2, .inl (k2, 125 * zq_nN n + 1, .inl (fun _ => 0)))] := hD
        refine W.widen (k := 2) (n := 20001) (by omega) (by omega) ?_
        refine va_putF (D := (dC, dI)) (ci := 0) (v := .ref q2) (ty := (.array .int)) (C := R_BlockDesk) (T := F_BlockDesk) (N := 11) hx hb hts hin0 t_BlockDesk t_BlockDesk_ok n_BlockDesk hown hK hP hD hS 0 rfl rfl 1 (by decide) (hts (.fieldLink R_BlockDesk 13 "BlockDesk" "starts" "[I") (by decide +kernel)) (fun _ h9 => h9) rfl hin rfl (by decide +kernel) rfl rfl (Nat.le_of_ble_eq_true rfl) d_BlockDesk_init_51 (fun H locs hP hD hS => ?_)
        have hP : va_P (dC, dI) classes [(a0, .inr (0, [.ref q1, .ref q2, .int (nI 0), .int (nI 0), .null, .int (nI 0), .null, .int (nI 0), .int (nI 0), .int (nI 0), .int (nI 0)])), (q1, .inl (k1, 500 * zq_nN n, .inl (fun _ => 0))), (q2, .inl (k2, 125 * zq_nN n + 1, .inl (fun _ => 0)))] H := hP
        have hD : va_D A [(a0, .inr (0, [.ref q1, .ref q2, .int (nI 0), .int (nI 0), .null, .int (nI 0), .null, .int (nI 0), .int (nI 0), .int (nI 0), .int (nI 0)])), (q1, .inl (k1, 500 * zq_nN n, .inl (fun _ => 0))), (q2, .inl (k2, 125 * zq_nN n + 1, .inl (fun _ => 0)))] := hD
        refine lv_aload_n hx hb d_BlockDesk_init_54 rfl (lv_at hl 2 rfl) ?_
        refine lv_sipush (v := nI 8000) hx hb d_BlockDesk_init_55 (by decide +kernel) ?_
        refine va_newa (atype := .byte) (ty := .byte) (N' := 8000) (a0 := (8000, .inl (fun _ => 0))) hx hb (hts (.arrayClass .byte) (by decide +kernel)) rfl hK hP hD hS hA (fun _ => rfl) (nI_pos (by omega)) (nI_clamp (by omega)) (show (8000) * 1 ≤ 536870912 by omega) (show 2 + 1 ≤ 4 by omega) (show 20001 + (8000) ≤ 36001 by omega) d_BlockDesk_init_58 (fun q3 k3 H hK hP hD hS => ?_)
        have hK : va_K (dC, dI) classes [(k1, .byte), (k2, .int), (k3, .byte)] s := hK
        have hP : va_P (dC, dI) classes [(a0, .inr (0, [.ref q1, .ref q2, .int (nI 0), .int (nI 0), .null, .int (nI 0), .null, .int (nI 0), .int (nI 0), .int (nI 0), .int (nI 0)])), (q1, .inl (k1, 500 * zq_nN n, .inl (fun _ => 0))), (q2, .inl (k2, 125 * zq_nN n + 1, .inl (fun _ => 0))), (q3, .inl (k3, 8000, .inl (fun _ => 0)))] H := hP
        have hD : va_D A [(a0, .inr (0, [.ref q1, .ref q2, .int (nI 0), .int (nI 0), .null, .int (nI 0), .null, .int (nI 0), .int (nI 0), .int (nI 0), .int (nI 0)])), (q1, .inl (k1, 500 * zq_nN n, .inl (fun _ => 0))), (q2, .inl (k2, 125 * zq_nN n + 1, .inl (fun _ => 0))), (q3, .inl (k3, 8000, .inl (fun _ => 0)))] := hD
        refine W.widen (k := 3) (n := 28001) (by omega) (by omega) ?_
        refine va_put (D := (dC, dI)) (ci := 0) (v := .ref q3) (ty := (.array .byte)) (C := R_BlockDesk) (T := F_BlockDesk) (N := 11) hx hb hts hin0 t_BlockDesk t_BlockDesk_ok n_BlockDesk hown hK hP hD hS 0 rfl rfl 4 (by decide) (hts (.fieldLink R_BlockDesk 17 "BlockDesk" "snapshotBytes" "[B") (by decide +kernel)) (fun _ h9 => h9) rfl (by decide +kernel) rfl rfl (Nat.le_of_ble_eq_true rfl) d_BlockDesk_init_60 (fun H locs hP hD hS => ?_)
        have hP : va_P (dC, dI) classes [(a0, .inr (0, [.ref q1, .ref q2, .int (nI 0), .int (nI 0), .ref q3, .int (nI 0), .null, .int (nI 0), .int (nI 0), .int (nI 0), .int (nI 0)])), (q1, .inl (k1, 500 * zq_nN n, .inl (fun _ => 0))), (q2, .inl (k2, 125 * zq_nN n + 1, .inl (fun _ => 0))), (q3, .inl (k3, 8000, .inl (fun _ => 0)))] H := hP
        have hD : va_D A [(a0, .inr (0, [.ref q1, .ref q2, .int (nI 0), .int (nI 0), .ref q3, .int (nI 0), .null, .int (nI 0), .int (nI 0), .int (nI 0), .int (nI 0)])), (q1, .inl (k1, 500 * zq_nN n, .inl (fun _ => 0))), (q2, .inl (k2, 125 * zq_nN n + 1, .inl (fun _ => 0))), (q3, .inl (k3, 8000, .inl (fun _ => 0)))] := hD
        refine lv_aload_n hx hb d_BlockDesk_init_63 rfl (lv_at hl 2 rfl) ?_
        refine lv_sipush (v := nI 8000) hx hb d_BlockDesk_init_64 (by decide +kernel) ?_
        refine va_newa (atype := .byte) (ty := .byte) (N' := 8000) (a0 := (8000, .inl (fun _ => 0))) hx hb (hts (.arrayClass .byte) (by decide +kernel)) rfl hK hP hD hS hA (fun _ => rfl) (nI_pos (by omega)) (nI_clamp (by omega)) (show (8000) * 1 ≤ 536870912 by omega) (show 3 + 1 ≤ 4 by omega) (show 28001 + (8000) ≤ 36001 by omega) d_BlockDesk_init_67 (fun q4 k4 H hK hP hD hS => ?_)
        have hK : va_K (dC, dI) classes [(k1, .byte), (k2, .int), (k3, .byte), (k4, .byte)] s := hK
        have hP : va_P (dC, dI) classes [(a0, .inr (0, [.ref q1, .ref q2, .int (nI 0), .int (nI 0), .ref q3, .int (nI 0), .null, .int (nI 0), .int (nI 0), .int (nI 0), .int (nI 0)])), (q1, .inl (k1, 500 * zq_nN n, .inl (fun _ => 0))), (q2, .inl (k2, 125 * zq_nN n + 1, .inl (fun _ => 0))), (q3, .inl (k3, 8000, .inl (fun _ => 0))), (q4, .inl (k4, 8000, .inl (fun _ => 0)))] H := hP
        have hD : va_D A [(a0, .inr (0, [.ref q1, .ref q2, .int (nI 0), .int (nI 0), .ref q3, .int (nI 0), .null, .int (nI 0), .int (nI 0), .int (nI 0), .int (nI 0)])), (q1, .inl (k1, 500 * zq_nN n, .inl (fun _ => 0))), (q2, .inl (k2, 125 * zq_nN n + 1, .inl (fun _ => 0))), (q3, .inl (k3, 8000, .inl (fun _ => 0))), (q4, .inl (k4, 8000, .inl (fun _ => 0)))] := hD
        refine W.widen (k := 4) (n := 36001) (by omega) (by omega) ?_
        refine va_put (D := (dC, dI)) (ci := 0) (v := .ref q4) (ty := (.array .byte)) (C := R_BlockDesk) (T := F_BlockDesk) (N := 11) hx hb hts hin0 t_BlockDesk t_BlockDesk_ok n_BlockDesk hown hK hP hD hS 0 rfl rfl 6 (by decide) (hts (.fieldLink R_BlockDesk 20 "BlockDesk" "handBytes" "[B") (by decide +kernel)) (fun _ h9 => h9) rfl (by decide +kernel) rfl rfl (Nat.le_of_ble_eq_true rfl) d_BlockDesk_init_69 (fun H locs hP hD hS => ?_)
        have hP : va_P (dC, dI) classes [(a0, .inr (0, [.ref q1, .ref q2, .int (nI 0), .int (nI 0), .ref q3, .int (nI 0), .ref q4, .int (nI 0), .int (nI 0), .int (nI 0), .int (nI 0)])), (q1, .inl (k1, 500 * zq_nN n, .inl (fun _ => 0))), (q2, .inl (k2, 125 * zq_nN n + 1, .inl (fun _ => 0))), (q3, .inl (k3, 8000, .inl (fun _ => 0))), (q4, .inl (k4, 8000, .inl (fun _ => 0)))] H := hP
        have hD : va_D A [(a0, .inr (0, [.ref q1, .ref q2, .int (nI 0), .int (nI 0), .ref q3, .int (nI 0), .ref q4, .int (nI 0), .int (nI 0), .int (nI 0), .int (nI 0)])), (q1, .inl (k1, 500 * zq_nN n, .inl (fun _ => 0))), (q2, .inl (k2, 125 * zq_nN n + 1, .inl (fun _ => 0))), (q3, .inl (k3, 8000, .inl (fun _ => 0))), (q4, .inl (k4, 8000, .inl (fun _ => 0)))] := hD
        refine lv_aload_n hx hb d_BlockDesk_init_72 rfl (lv_at hl 2 rfl) ?_
        refine lv_iconst (v := nI 1) hx hb d_BlockDesk_init_73 (by decide +kernel) ?_
        refine va_put (D := (dC, dI)) (ci := 0) (v := .int (nI 1)) (ty := .boolean) (C := R_BlockDesk) (T := F_BlockDesk) (N := 11) hx hb hts hin0 t_BlockDesk t_BlockDesk_ok n_BlockDesk hown hK hP hD hS 0 rfl rfl 8 (by decide) (hts (.fieldLink R_BlockDesk 23 "BlockDesk" "up" "Z") (by decide +kernel)) (fun _ h9 => h9) rfl (by decide +kernel) zq_nb1 zq_fb1 (Nat.le_of_ble_eq_true rfl) d_BlockDesk_init_74 (fun H locs hP hD hS => ?_)
        have hP : va_P (dC, dI) classes [(a0, .inr (0, [.ref q1, .ref q2, .int (nI 0), .int (nI 0), .ref q3, .int (nI 0), .ref q4, .int (nI 0), .int (nI 1), .int (nI 0), .int (nI 0)])), (q1, .inl (k1, 500 * zq_nN n, .inl (fun _ => 0))), (q2, .inl (k2, 125 * zq_nN n + 1, .inl (fun _ => 0))), (q3, .inl (k3, 8000, .inl (fun _ => 0))), (q4, .inl (k4, 8000, .inl (fun _ => 0)))] H := hP
        have hD : va_D A [(a0, .inr (0, [.ref q1, .ref q2, .int (nI 0), .int (nI 0), .ref q3, .int (nI 0), .ref q4, .int (nI 0), .int (nI 1), .int (nI 0), .int (nI 0)])), (q1, .inl (k1, 500 * zq_nN n, .inl (fun _ => 0))), (q2, .inl (k2, 125 * zq_nN n + 1, .inl (fun _ => 0))), (q3, .inl (k3, 8000, .inl (fun _ => 0))), (q4, .inl (k4, 8000, .inl (fun _ => 0)))] := hD
        refine lv_aload_n hx hb d_BlockDesk_init_77 rfl (lv_at hl 2 rfl) ?_
        refine lv_iconst (v := (-1)) hx hb d_BlockDesk_init_78 (by decide +kernel) ?_
        refine va_put (D := (dC, dI)) (ci := 0) (v := .int (-1)) (ty := .int) (C := R_BlockDesk) (T := F_BlockDesk) (N := 11) hx hb hts hin0 t_BlockDesk t_BlockDesk_ok n_BlockDesk hown hK hP hD hS 0 rfl rfl 9 (by decide) (hts (.fieldLink R_BlockDesk 27 "BlockDesk" "charge" "I") (by decide +kernel)) (fun _ h9 => h9) rfl (by decide +kernel) rfl rfl (Nat.le_of_ble_eq_true rfl) d_BlockDesk_init_79 (fun H locs hP hD hS => ?_)
        have hP : va_P (dC, dI) classes [(a0, .inr (0, [.ref q1, .ref q2, .int (nI 0), .int (nI 0), .ref q3, .int (nI 0), .ref q4, .int (nI 0), .int (nI 1), .int (-1), .int (nI 0)])), (q1, .inl (k1, 500 * zq_nN n, .inl (fun _ => 0))), (q2, .inl (k2, 125 * zq_nN n + 1, .inl (fun _ => 0))), (q3, .inl (k3, 8000, .inl (fun _ => 0))), (q4, .inl (k4, 8000, .inl (fun _ => 0)))] H := hP
        have hD : va_D A [(a0, .inr (0, [.ref q1, .ref q2, .int (nI 0), .int (nI 0), .ref q3, .int (nI 0), .ref q4, .int (nI 0), .int (nI 1), .int (-1), .int (nI 0)])), (q1, .inl (k1, 500 * zq_nN n, .inl (fun _ => 0))), (q2, .inl (k2, 125 * zq_nN n + 1, .inl (fun _ => 0))), (q3, .inl (k3, 8000, .inl (fun _ => 0))), (q4, .inl (k4, 8000, .inl (fun _ => 0)))] := hD
        have hP9 := hP.sub (ws' := [(a0, .inr (0, [.ref q1, .ref q2, .int (nI 0), .int (nI 0), .ref q3, .int (nI 0), .ref q4, .int (nI 0), .int (nI 1), .int (-1), .int (nI 0)])), (q1, .inl (k1, 500 * zq_nN n, .inl (fun _ => 0))), (q2, .inl (k2, 125 * zq_nN n + 1, .inl (fun _ => 0))), (q3, .inl (k3, 8000, .inl (fun _ => 0))), (q4, .inl (k4, 8000, .inl (fun _ => 0)))]) [0, 1, 2, 3, 4] rfl
        have hD9 := hD.sub (ws' := [(a0, .inr (0, [.ref q1, .ref q2, .int (nI 0), .int (nI 0), .ref q3, .int (nI 0), .ref q4, .int (nI 0), .int (nI 1), .int (-1), .int (nI 0)])), (q1, .inl (k1, 500 * zq_nN n, .inl (fun _ => 0))), (q2, .inl (k2, 125 * zq_nN n + 1, .inl (fun _ => 0))), (q3, .inl (k3, 8000, .inl (fun _ => 0))), (q4, .inl (k4, 8000, .inl (fun _ => 0)))]) [0, 1, 2, 3, 4] (by decide) rfl
        have hK9 := hK.sub (tys' := [(k1, .byte), (k2, .int), (k3, .byte), (k4, .byte)]) [0, 1, 2, 3] rfl
        exact W.vret hx hb hr (fun t ht hW => ⟨⟨(q1, q2, q3, q4, k1, k2, k3, k4), rfl, trivial, by rw [ht]; exact hP9, va_K.moved hW.alike hK9, hD9⟩, hS.F ht⟩) hS.2.2 d_BlockDesk_init_82
      · exact absurd rfl c_22
    · have c_12 : ¬ (((32 : Nat) : Int) < n.toInt) := fun h9 => c_12 ((xq_lt_l (by omega)).mpr h9)
      refine lv_iconst (v := nI 1) hx hb d_BlockDesk_init_15 (by decide +kernel) ?_
      refine lv_goto (tgt := 20) hx hb d_BlockDesk_init_16 (by decide) ?_
      refine lv_istore_n (lv' := [(2, .int (nI 1)), (0, .ref a0), (1, .int n)]) hx hb d_BlockDesk_init_20 rfl hl (by decide) rfl (fun ls hl => ?_)
      refine lv_iload_n hx hb d_BlockDesk_init_21 rfl (lv_at hl 0 rfl) ?_
      refine lv_if_eq (tgt := 29) hx hb d_BlockDesk_init_22 (by decide) (fun c_22 => ?_) (fun c_22 => ?_)
      · exact absurd c_22 (xq_n0 (by omega) (by omega))
      · refine lv_iload_n hx hb d_BlockDesk_init_25 rfl (lv_at hl 2 rfl) ?_
        refine lv_goto (tgt := 31) hx hb d_BlockDesk_init_26 (by decide) ?_
        refine xq_top (nI (zq_nN n)) (zq_nN_a c_6 c_12) ?_
        refine lv_sipush (v := nI 500) hx hb d_BlockDesk_init_31 (by decide +kernel) ?_
        refine lv_imul hx hb d_BlockDesk_init_34 ?_
        refine xq_top (nI ((zq_nN n) * 500)) (pk_mul _ _) ?_
        refine xq_top (nI (500 * zq_nN n)) (congrArg nI (by omega)) ?_
        refine lv_istore_n (lv' := [(3, .int (nI (500 * zq_nN n))), (2, .int (nI 1)), (0, .ref a0), (1, .int n)]) hx hb d_BlockDesk_init_35 rfl hl (by decide) rfl (fun ls hl => ?_)
        refine lv_aload_n hx hb d_BlockDesk_init_36 rfl (lv_at hl 2 rfl) ?_
        refine lv_iload_n hx hb d_BlockDesk_init_37 rfl (lv_at hl 0 rfl) ?_
        refine va_newa (atype := .byte) (ty := .byte) (N' := 500 * zq_nN n) (a0 := (500 * zq_nN n, .inl (fun _ => 0))) hx hb (hts (.arrayClass .byte) (by decide +kernel)) rfl hK hP hD hS hA (fun _ => rfl) (nI_pos (by omega)) (nI_clamp (by omega)) (show (500 * zq_nN n) * 1 ≤ 536870912 by omega) (show 0 + 1 ≤ 4 by omega) (show 0 + (500 * zq_nN n) ≤ 36001 by omega) d_BlockDesk_init_38 (fun q1 k1 H hK hP hD hS => ?_)
        have hK : va_K (dC, dI) classes [(k1, .byte)] s := hK
        have hP : va_P (dC, dI) classes [(a0, .inr (0, [.null, .null, .int (nI 0), .int (nI 0), .null, .int (nI 0), .null, .int (nI 0), .int (nI 0), .int (nI 0), .int (nI 0)])), (q1, .inl (k1, 500 * zq_nN n, .inl (fun _ => 0)))] H := hP
        have hD : va_D A [(a0, .inr (0, [.null, .null, .int (nI 0), .int (nI 0), .null, .int (nI 0), .null, .int (nI 0), .int (nI 0), .int (nI 0), .int (nI 0)])), (q1, .inl (k1, 500 * zq_nN n, .inl (fun _ => 0)))] := hD
        refine W.widen (k := 1) (n := 16000) (by omega) (by omega) ?_
        refine va_putF (D := (dC, dI)) (ci := 0) (v := .ref q1) (ty := (.array .byte)) (C := R_BlockDesk) (T := F_BlockDesk) (N := 11) hx hb hts hin0 t_BlockDesk t_BlockDesk_ok n_BlockDesk hown hK hP hD hS 0 rfl rfl 0 (by decide) (hts (.fieldLink R_BlockDesk 9 "BlockDesk" "journal" "[B") (by decide +kernel)) (fun _ h9 => h9) rfl hin rfl (by decide +kernel) rfl rfl (Nat.le_of_ble_eq_true rfl) d_BlockDesk_init_40 (fun H locs hP hD hS => ?_)
        have hP : va_P (dC, dI) classes [(a0, .inr (0, [.ref q1, .null, .int (nI 0), .int (nI 0), .null, .int (nI 0), .null, .int (nI 0), .int (nI 0), .int (nI 0), .int (nI 0)])), (q1, .inl (k1, 500 * zq_nN n, .inl (fun _ => 0)))] H := hP
        have hD : va_D A [(a0, .inr (0, [.ref q1, .null, .int (nI 0), .int (nI 0), .null, .int (nI 0), .null, .int (nI 0), .int (nI 0), .int (nI 0), .int (nI 0)])), (q1, .inl (k1, 500 * zq_nN n, .inl (fun _ => 0)))] := hD
        refine lv_aload_n hx hb d_BlockDesk_init_43 rfl (lv_at hl 2 rfl) ?_
        refine lv_iload_n hx hb d_BlockDesk_init_44 rfl (lv_at hl 0 rfl) ?_
        refine lv_iconst (v := nI 4) hx hb d_BlockDesk_init_45 (by decide +kernel) ?_
        refine lv_idiv hx hb d_BlockDesk_init_46 (by decide +kernel) ?_
        refine xq_top (nI ((500 * zq_nN n) / 4)) (pk_div (by omega) (by omega) (by omega)) ?_
        refine lv_iconst (v := nI 1) hx hb d_BlockDesk_init_47 (by decide +kernel) ?_
        refine lv_iadd hx hb d_BlockDesk_init_48 ?_
        refine xq_top (nI ((500 * zq_nN n) / 4 + 1)) (nI_add _ _) ?_
        refine xq_top (nI (125 * zq_nN n + 1)) (congrArg nI (by omega)) ?_
        refine va_newa (atype := .int) (ty := .int) (N' := 125 * zq_nN n + 1) (a0 := (125 * zq_nN n + 1, .inl (fun _ => 0))) hx hb (hts (.arrayClass .int) (by decide +kernel)) rfl hK hP hD hS hA (fun _ => rfl) (nI_pos (by omega)) (nI_clamp (by omega)) (show (125 * zq_nN n + 1) * 4 ≤ 536870912 by omega) (show 1 + 1 ≤ 4 by omega) (show 16000 + (125 * zq_nN n + 1) ≤ 36001 by omega) d_BlockDesk_init_49 (fun q2 k2 H hK hP hD hS => ?_)
        have hK : va_K (dC, dI) classes [(k1, .byte), (k2, .int)] s := hK
        have hP : va_P (dC, dI) classes [(a0, .inr (0, [.ref q1, .null, .int (nI 0), .int (nI 0), .null, .int (nI 0), .null, .int (nI 0), .int (nI 0), .int (nI 0), .int (nI 0)])), (q1, .inl (k1, 500 * zq_nN n, .inl (fun _ => 0))), (q2, .inl (k2, 125 * zq_nN n + 1, .inl (fun _ => 0)))] H := hP
        have hD : va_D A [(a0, .inr (0, [.ref q1, .null, .int (nI 0), .int (nI 0), .null, .int (nI 0), .null, .int (nI 0), .int (nI 0), .int (nI 0), .int (nI 0)])), (q1, .inl (k1, 500 * zq_nN n, .inl (fun _ => 0))), (q2, .inl (k2, 125 * zq_nN n + 1, .inl (fun _ => 0)))] := hD
        refine W.widen (k := 2) (n := 20001) (by omega) (by omega) ?_
        refine va_putF (D := (dC, dI)) (ci := 0) (v := .ref q2) (ty := (.array .int)) (C := R_BlockDesk) (T := F_BlockDesk) (N := 11) hx hb hts hin0 t_BlockDesk t_BlockDesk_ok n_BlockDesk hown hK hP hD hS 0 rfl rfl 1 (by decide) (hts (.fieldLink R_BlockDesk 13 "BlockDesk" "starts" "[I") (by decide +kernel)) (fun _ h9 => h9) rfl hin rfl (by decide +kernel) rfl rfl (Nat.le_of_ble_eq_true rfl) d_BlockDesk_init_51 (fun H locs hP hD hS => ?_)
        have hP : va_P (dC, dI) classes [(a0, .inr (0, [.ref q1, .ref q2, .int (nI 0), .int (nI 0), .null, .int (nI 0), .null, .int (nI 0), .int (nI 0), .int (nI 0), .int (nI 0)])), (q1, .inl (k1, 500 * zq_nN n, .inl (fun _ => 0))), (q2, .inl (k2, 125 * zq_nN n + 1, .inl (fun _ => 0)))] H := hP
        have hD : va_D A [(a0, .inr (0, [.ref q1, .ref q2, .int (nI 0), .int (nI 0), .null, .int (nI 0), .null, .int (nI 0), .int (nI 0), .int (nI 0), .int (nI 0)])), (q1, .inl (k1, 500 * zq_nN n, .inl (fun _ => 0))), (q2, .inl (k2, 125 * zq_nN n + 1, .inl (fun _ => 0)))] := hD
        refine lv_aload_n hx hb d_BlockDesk_init_54 rfl (lv_at hl 2 rfl) ?_
        refine lv_sipush (v := nI 8000) hx hb d_BlockDesk_init_55 (by decide +kernel) ?_
        refine va_newa (atype := .byte) (ty := .byte) (N' := 8000) (a0 := (8000, .inl (fun _ => 0))) hx hb (hts (.arrayClass .byte) (by decide +kernel)) rfl hK hP hD hS hA (fun _ => rfl) (nI_pos (by omega)) (nI_clamp (by omega)) (show (8000) * 1 ≤ 536870912 by omega) (show 2 + 1 ≤ 4 by omega) (show 20001 + (8000) ≤ 36001 by omega) d_BlockDesk_init_58 (fun q3 k3 H hK hP hD hS => ?_)
        have hK : va_K (dC, dI) classes [(k1, .byte), (k2, .int), (k3, .byte)] s := hK
        have hP : va_P (dC, dI) classes [(a0, .inr (0, [.ref q1, .ref q2, .int (nI 0), .int (nI 0), .null, .int (nI 0), .null, .int (nI 0), .int (nI 0), .int (nI 0), .int (nI 0)])), (q1, .inl (k1, 500 * zq_nN n, .inl (fun _ => 0))), (q2, .inl (k2, 125 * zq_nN n + 1, .inl (fun _ => 0))), (q3, .inl (k3, 8000, .inl (fun _ => 0)))] H := hP
        have hD : va_D A [(a0, .inr (0, [.ref q1, .ref q2, .int (nI 0), .int (nI 0), .null, .int (nI 0), .null, .int (nI 0), .int (nI 0), .int (nI 0), .int (nI 0)])), (q1, .inl (k1, 500 * zq_nN n, .inl (fun _ => 0))), (q2, .inl (k2, 125 * zq_nN n + 1, .inl (fun _ => 0))), (q3, .inl (k3, 8000, .inl (fun _ => 0)))] := hD
        refine W.widen (k := 3) (n := 28001) (by omega) (by omega) ?_
        refine va_put (D := (dC, dI)) (ci := 0) (v := .ref q3) (ty := (.array .byte)) (C := R_BlockDesk) (T := F_BlockDesk) (N := 11) hx hb hts hin0 t_BlockDesk t_BlockDesk_ok n_BlockDesk hown hK hP hD hS 0 rfl rfl 4 (by decide) (hts (.fieldLink R_BlockDesk 17 "BlockDesk" "snapshotBytes" "[B") (by decide +kernel)) (fun _ h9 => h9) rfl (by decide +kernel) rfl rfl (Nat.le_of_ble_eq_true rfl) d_BlockDesk_init_60 (fun H locs hP hD hS => ?_)
        have hP : va_P (dC, dI) classes [(a0, .inr (0, [.ref q1, .ref q2, .int (nI 0), .int (nI 0), .ref q3, .int (nI 0), .null, .int (nI 0), .int (nI 0), .int (nI 0), .int (nI 0)])), (q1, .inl (k1, 500 * zq_nN n, .inl (fun _ => 0))), (q2, .inl (k2, 125 * zq_nN n + 1, .inl (fun _ => 0))), (q3, .inl (k3, 8000, .inl (fun _ => 0)))] H := hP
        have hD : va_D A [(a0, .inr (0, [.ref q1, .ref q2, .int (nI 0), .int (nI 0), .ref q3, .int (nI 0), .null, .int (nI 0), .int (nI 0), .int (nI 0), .int (nI 0)])), (q1, .inl (k1, 500 * zq_nN n, .inl (fun _ => 0))), (q2, .inl (k2, 125 * zq_nN n + 1, .inl (fun _ => 0))), (q3, .inl (k3, 8000, .inl (fun _ => 0)))] := hD
        refine lv_aload_n hx hb d_BlockDesk_init_63 rfl (lv_at hl 2 rfl) ?_
        refine lv_sipush (v := nI 8000) hx hb d_BlockDesk_init_64 (by decide +kernel) ?_
        refine va_newa (atype := .byte) (ty := .byte) (N' := 8000) (a0 := (8000, .inl (fun _ => 0))) hx hb (hts (.arrayClass .byte) (by decide +kernel)) rfl hK hP hD hS hA (fun _ => rfl) (nI_pos (by omega)) (nI_clamp (by omega)) (show (8000) * 1 ≤ 536870912 by omega) (show 3 + 1 ≤ 4 by omega) (show 28001 + (8000) ≤ 36001 by omega) d_BlockDesk_init_67 (fun q4 k4 H hK hP hD hS => ?_)
        have hK : va_K (dC, dI) classes [(k1, .byte), (k2, .int), (k3, .byte), (k4, .byte)] s := hK
        have hP : va_P (dC, dI) classes [(a0, .inr (0, [.ref q1, .ref q2, .int (nI 0), .int (nI 0), .ref q3, .int (nI 0), .null, .int (nI 0), .int (nI 0), .int (nI 0), .int (nI 0)])), (q1, .inl (k1, 500 * zq_nN n, .inl (fun _ => 0))), (q2, .inl (k2, 125 * zq_nN n + 1, .inl (fun _ => 0))), (q3, .inl (k3, 8000, .inl (fun _ => 0))), (q4, .inl (k4, 8000, .inl (fun _ => 0)))] H := hP
        have hD : va_D A [(a0, .inr (0, [.ref q1, .ref q2, .int (nI 0), .int (nI 0), .ref q3, .int (nI 0), .null, .int (nI 0), .int (nI 0), .int (nI 0), .int (nI 0)])), (q1, .inl (k1, 500 * zq_nN n, .inl (fun _ => 0))), (q2, .inl (k2, 125 * zq_nN n + 1, .inl (fun _ => 0))), (q3, .inl (k3, 8000, .inl (fun _ => 0))), (q4, .inl (k4, 8000, .inl (fun _ => 0)))] := hD
        refine W.widen (k := 4) (n := 36001) (by omega) (by omega) ?_
        refine va_put (D := (dC, dI)) (ci := 0) (v := .ref q4) (ty := (.array .byte)) (C := R_BlockDesk) (T := F_BlockDesk) (N := 11) hx hb hts hin0 t_BlockDesk t_BlockDesk_ok n_BlockDesk hown hK hP hD hS 0 rfl rfl 6 (by decide) (hts (.fieldLink R_BlockDesk 20 "BlockDesk" "handBytes" "[B") (by decide +kernel)) (fun _ h9 => h9) rfl (by decide +kernel) rfl rfl (Nat.le_of_ble_eq_true rfl) d_BlockDesk_init_69 (fun H locs hP hD hS => ?_)
        have hP : va_P (dC, dI) classes [(a0, .inr (0, [.ref q1, .ref q2, .int (nI 0), .int (nI 0), .ref q3, .int (nI 0), .ref q4, .int (nI 0), .int (nI 0), .int (nI 0), .int (nI 0)])), (q1, .inl (k1, 500 * zq_nN n, .inl (fun _ => 0))), (q2, .inl (k2, 125 * zq_nN n + 1, .inl (fun _ => 0))), (q3, .inl (k3, 8000, .inl (fun _ => 0))), (q4, .inl (k4, 8000, .inl (fun _ => 0)))] H := hP
        have hD : va_D A [(a0, .inr (0, [.ref q1, .ref q2, .int (nI 0), .int (nI 0), .ref q3, .int (nI 0), .ref q4, .int (nI 0), .int (nI 0), .int (nI 0), .int (nI 0)])), (q1, .inl (k1, 500 * zq_nN n, .inl (fun _ => 0))), (q2, .inl (k2, 125 * zq_nN n + 1, .inl (fun _ => 0))), (q3, .inl (k3, 8000, .inl (fun _ => 0))), (q4, .inl (k4, 8000, .inl (fun _ => 0)))] := hD
        refine lv_aload_n hx hb d_BlockDesk_init_72 rfl (lv_at hl 2 rfl) ?_
        refine lv_iconst (v := nI 1) hx hb d_BlockDesk_init_73 (by decide +kernel) ?_
        refine va_put (D := (dC, dI)) (ci := 0) (v := .int (nI 1)) (ty := .boolean) (C := R_BlockDesk) (T := F_BlockDesk) (N := 11) hx hb hts hin0 t_BlockDesk t_BlockDesk_ok n_BlockDesk hown hK hP hD hS 0 rfl rfl 8 (by decide) (hts (.fieldLink R_BlockDesk 23 "BlockDesk" "up" "Z") (by decide +kernel)) (fun _ h9 => h9) rfl (by decide +kernel) zq_nb1 zq_fb1 (Nat.le_of_ble_eq_true rfl) d_BlockDesk_init_74 (fun H locs hP hD hS => ?_)
        have hP : va_P (dC, dI) classes [(a0, .inr (0, [.ref q1, .ref q2, .int (nI 0), .int (nI 0), .ref q3, .int (nI 0), .ref q4, .int (nI 0), .int (nI 1), .int (nI 0), .int (nI 0)])), (q1, .inl (k1, 500 * zq_nN n, .inl (fun _ => 0))), (q2, .inl (k2, 125 * zq_nN n + 1, .inl (fun _ => 0))), (q3, .inl (k3, 8000, .inl (fun _ => 0))), (q4, .inl (k4, 8000, .inl (fun _ => 0)))] H := hP
        have hD : va_D A [(a0, .inr (0, [.ref q1, .ref q2, .int (nI 0), .int (nI 0), .ref q3, .int (nI 0), .ref q4, .int (nI 0), .int (nI 1), .int (nI 0), .int (nI 0)])), (q1, .inl (k1, 500 * zq_nN n, .inl (fun _ => 0))), (q2, .inl (k2, 125 * zq_nN n + 1, .inl (fun _ => 0))), (q3, .inl (k3, 8000, .inl (fun _ => 0))), (q4, .inl (k4, 8000, .inl (fun _ => 0)))] := hD
        refine lv_aload_n hx hb d_BlockDesk_init_77 rfl (lv_at hl 2 rfl) ?_
        refine lv_iconst (v := (-1)) hx hb d_BlockDesk_init_78 (by decide +kernel) ?_
        refine va_put (D := (dC, dI)) (ci := 0) (v := .int (-1)) (ty := .int) (C := R_BlockDesk) (T := F_BlockDesk) (N := 11) hx hb hts hin0 t_BlockDesk t_BlockDesk_ok n_BlockDesk hown hK hP hD hS 0 rfl rfl 9 (by decide) (hts (.fieldLink R_BlockDesk 27 "BlockDesk" "charge" "I") (by decide +kernel)) (fun _ h9 => h9) rfl (by decide +kernel) rfl rfl (Nat.le_of_ble_eq_true rfl) d_BlockDesk_init_79 (fun H locs hP hD hS => ?_)
        have hP : va_P (dC, dI) classes [(a0, .inr (0, [.ref q1, .ref q2, .int (nI 0), .int (nI 0), .ref q3, .int (nI 0), .ref q4, .int (nI 0), .int (nI 1), .int (-1), .int (nI 0)])), (q1, .inl (k1, 500 * zq_nN n, .inl (fun _ => 0))), (q2, .inl (k2, 125 * zq_nN n + 1, .inl (fun _ => 0))), (q3, .inl (k3, 8000, .inl (fun _ => 0))), (q4, .inl (k4, 8000, .inl (fun _ => 0)))] H := hP
        have hD : va_D A [(a0, .inr (0, [.ref q1, .ref q2, .int (nI 0), .int (nI 0), .ref q3, .int (nI 0), .ref q4, .int (nI 0), .int (nI 1), .int (-1), .int (nI 0)])), (q1, .inl (k1, 500 * zq_nN n, .inl (fun _ => 0))), (q2, .inl (k2, 125 * zq_nN n + 1, .inl (fun _ => 0))), (q3, .inl (k3, 8000, .inl (fun _ => 0))), (q4, .inl (k4, 8000, .inl (fun _ => 0)))] := hD
        have hP9 := hP.sub (ws' := [(a0, .inr (0, [.ref q1, .ref q2, .int (nI 0), .int (nI 0), .ref q3, .int (nI 0), .ref q4, .int (nI 0), .int (nI 1), .int (-1), .int (nI 0)])), (q1, .inl (k1, 500 * zq_nN n, .inl (fun _ => 0))), (q2, .inl (k2, 125 * zq_nN n + 1, .inl (fun _ => 0))), (q3, .inl (k3, 8000, .inl (fun _ => 0))), (q4, .inl (k4, 8000, .inl (fun _ => 0)))]) [0, 1, 2, 3, 4] rfl
        have hD9 := hD.sub (ws' := [(a0, .inr (0, [.ref q1, .ref q2, .int (nI 0), .int (nI 0), .ref q3, .int (nI 0), .ref q4, .int (nI 0), .int (nI 1), .int (-1), .int (nI 0)])), (q1, .inl (k1, 500 * zq_nN n, .inl (fun _ => 0))), (q2, .inl (k2, 125 * zq_nN n + 1, .inl (fun _ => 0))), (q3, .inl (k3, 8000, .inl (fun _ => 0))), (q4, .inl (k4, 8000, .inl (fun _ => 0)))]) [0, 1, 2, 3, 4] (by decide) rfl
        have hK9 := hK.sub (tys' := [(k1, .byte), (k2, .int), (k3, .byte), (k4, .byte)]) [0, 1, 2, 3] rfl
        exact W.vret hx hb hr (fun t ht hW => ⟨⟨(q1, q2, q3, q4, k1, k2, k3, k4), rfl, trivial, by rw [ht]; exact hP9, va_K.moved hW.alike hK9, hD9⟩, hS.F ht⟩) hS.2.2 d_BlockDesk_init_82
set_option maxHeartbeats 4000000 in
set_option maxRecDepth 100000 in
theorem c_BlockDeskModel_init (l : Launch) (dC : Nat → ClassId) (dI : Nat → Nat → Nat) (sz : Nat) (b0 : Nat) (n : Int32)  : Met l y_BlockDeskModel_init w_BlockDeskModel_init ({ frames := 1, cells := 4, slots := 36001, locals := 22 }) (va_Pc [.ref b0, .int n] (fun U => U.heap.size = sz ∧ va_P (dC, dI) classes [(b0, .inr (1, [.int (nI 0), .int (nI 0), .int (nI 0), .int (nI 0), .int (nI 0), .int (nI 0), .null, .int (nI 0), .null, .int (nI 0), .null, .null, .int (nI 0)]))] U.heap ∧ va_K (dC, dI) classes [] U ∧ va_D (fun _ => True) [(b0, .inr (1, [.int (nI 0), .int (nI 0), .int (nI 0), .int (nI 0), .int (nI 0), .int (nI 0), .null, .int (nI 0), .null, .int (nI 0), .null, .null, .int (nI 0)]))])) (va_Qv (fun (_ : Nat × Nat × Nat × Nat × ClassId × ClassId × ClassId × ClassId) => True) (fun (u : Nat × Nat × Nat × Nat × ClassId × ClassId × ClassId × ClassId) (t : State) => match u with | (b1, b2, b3, b4, o1, o2, o3, o4) => va_P (dC, dI) classes [(b0, .inr (1, [.int (nI (zq_nN n)), .int (nI 1), .int (-1), .int (nI 0), .int (nI 0), .int (nI 0), .ref b1, .int (nI 0), .ref b2, .int (nI 0), .ref b3, .ref b4, .int (nI 0)])), (b1, .inl (o1, 8000, .inl (fun _ => 0))), (b2, .inl (o2, 8000, .inl (fun _ => 0))), (b3, .inl (o3, 16000, .inl (fun _ => 0))), (b4, .inl (o4, 4001, .inl (fun _ => 0)))] t.heap ∧ va_K (dC, dI) classes [(o1, .int), (o2, .int), (o3, .int), (o4, .int)] t ∧ va_D (va_A [(b0, .inr (1, [.int (nI 0), .int (nI 0), .int (nI 0), .int (nI 0), .int (nI 0), .int (nI 0), .null, .int (nI 0), .null, .int (nI 0), .null, .null, .int (nI 0)]))] sz) [(b0, .inr (1, [.int (nI (zq_nN n)), .int (nI 1), .int (-1), .int (nI 0), .int (nI 0), .int (nI 0), .ref b1, .int (nI 0), .ref b2, .int (nI 0), .ref b3, .ref b4, .int (nI 0)])), (b1, .inl (o1, 8000, .inl (fun _ => 0))), (b2, .inl (o2, 8000, .inl (fun _ => 0))), (b3, .inl (o3, 16000, .inl (fun _ => 0))), (b4, .inl (o4, 4001, .inl (fun _ => 0)))]) (va_A [(b0, .inr (1, [.int (nI 0), .int (nI 0), .int (nI 0), .int (nI 0), .int (nI 0), .int (nI 0), .null, .int (nI 0), .null, .int (nI 0), .null, .null, .int (nI 0)]))] sz)) 4 36001 (va_A [(b0, .inr (1, [.int (nI 0), .int (nI 0), .int (nI 0), .int (nI 0), .int (nI 0), .int (nI 0), .null, .int (nI 0), .null, .int (nI 0), .null, .null, .int (nI 0)]))] sz) := by
  refine Met.ofW (cc := b_BlockDeskModel_init) (maxL := 2) (ret := none) (by decide) rfl ?_
  intro p e s m args below meth c s₁ B hml hv
  obtain ⟨rfl, hsz, hP, hK, hD0⟩ := hv
  have hx := B.exec
  have hb := B.bytes
  have hr := B.returns
  have hts := atoms_spec (ws := w_BlockDeskModel_init) B.pre
  have hown : s.vm.findClass R_BlockDeskModel = some m.cls := findClass_of_methodNamed B.named
  have hlocks := B.notSynchronized
  have hin : meth.name = "<init>" := (name_of_methodNamed B.named B.method).1
  subst hsz
  have hD := hD0.self (sz := s.heap.size)
  generalize hAe : va_A [(b0, .inr (1, [.int (nI 0), .int (nI 0), .int (nI 0), .int (nI 0), .int (nI 0), .int (nI 0), .null, .int (nI 0), .null, .int (nI 0), .null, .null, .int (nI 0)]))] s.heap.size = A at hD ⊢
  have hA : ∀ q : Nat, s.heap.size ≤ q → A q := fun q h => by rw [← hAe]; exact Or.inr h
  have hS : va_S A s.heap s.heap [] := va_S.rf
  have hP : va_P (dC, dI) classes [(b0, .inr (1, [.int (nI 0), .int (nI 0), .int (nI 0), .int (nI 0), .int (nI 0), .int (nI 0), .null, .int (nI 0), .null, .int (nI 0), .null, .null, .int (nI 0)]))] s.heap := hP
  have hin1 : ∀ w ∈ u_ws R_BlockDeskModel F_BlockDeskModel 13, w ∈ w_BlockDeskModel_init := by decide +kernel
  have hl := lv_entry ([.ref b0, .int n]) (n := 2) (Nat.le_of_ble_eq_true rfl)
  rw [lg_entry_eq]
  generalize (lg_sl ([.ref b0, .int n]) ++ List.replicate (2 - (lg_sl ([.ref b0, .int n])).length) Slot.unset).toArray = ls at hl ⊢
  have hl : lv_has ls 2 [(0, .ref b0), (1, .int n)] := hl
  refine lv_aload_n hx hb d_BlockDeskModel_init_0 rfl (lv_at hl 0 rfl) ?_
  refine W.objInit hx hb hown (hts (.methodLink R_BlockDeskModel 1 objectInit) (by decide +kernel)) (hts (.instanceMethod objectInit) (by decide +kernel)) (hts _ (List.mem_of_getElem? (i := 3) rfl)) rfl (by rw [hml]; exact hl.1) rfl d_BlockDeskModel_init_1 (Nat.le_of_ble_eq_true rfl) (Nat.le_of_ble_eq_true rfl) ?_
  refine W.eq (g2 := F0 m 4 ls []) rfl ?_
  refine lv_aload_n hx hb d_BlockDeskModel_init_4 rfl (lv_at hl 0 rfl) ?_
  refine lv_iconst (v := nI 1) hx hb d_BlockDeskModel_init_5 (by decide +kernel) ?_
  refine va_put (D := (dC, dI)) (ci := 1) (v := .int (nI 1)) (ty := .boolean) (C := R_BlockDeskModel) (T := F_BlockDeskModel) (N := 13) hx hb hts hin1 t_BlockDeskModel t_BlockDeskModel_ok n_BlockDeskModel hown hK hP hD hS 0 rfl rfl 1 (by decide) (hts (.fieldLink R_BlockDeskModel 7 "BlockDeskModel" "up" "Z") (by decide +kernel)) (fun _ h9 => h9) rfl (by decide +kernel) zq_nb1 zq_fb1 (Nat.le_of_ble_eq_true rfl) d_BlockDeskModel_init_6 (fun H locs hP hD hS => ?_)
  have hP : va_P (dC, dI) classes [(b0, .inr (1, [.int (nI 0), .int (nI 1), .int (nI 0), .int (nI 0), .int (nI 0), .int (nI 0), .null, .int (nI 0), .null, .int (nI 0), .null, .null, .int (nI 0)]))] H := hP
  have hD : va_D A [(b0, .inr (1, [.int (nI 0), .int (nI 1), .int (nI 0), .int (nI 0), .int (nI 0), .int (nI 0), .null, .int (nI 0), .null, .int (nI 0), .null, .null, .int (nI 0)]))] := hD
  refine lv_aload_n hx hb d_BlockDeskModel_init_9 rfl (lv_at hl 0 rfl) ?_
  refine lv_iconst (v := (-1)) hx hb d_BlockDeskModel_init_10 (by decide +kernel) ?_
  refine va_put (D := (dC, dI)) (ci := 1) (v := .int (-1)) (ty := .int) (C := R_BlockDeskModel) (T := F_BlockDeskModel) (N := 13) hx hb hts hin1 t_BlockDeskModel t_BlockDeskModel_ok n_BlockDeskModel hown hK hP hD hS 0 rfl rfl 2 (by decide) (hts (.fieldLink R_BlockDeskModel 13 "BlockDeskModel" "charge" "I") (by decide +kernel)) (fun _ h9 => h9) rfl (by decide +kernel) rfl rfl (Nat.le_of_ble_eq_true rfl) d_BlockDeskModel_init_11 (fun H locs hP hD hS => ?_)
  have hP : va_P (dC, dI) classes [(b0, .inr (1, [.int (nI 0), .int (nI 1), .int (-1), .int (nI 0), .int (nI 0), .int (nI 0), .null, .int (nI 0), .null, .int (nI 0), .null, .null, .int (nI 0)]))] H := hP
  have hD : va_D A [(b0, .inr (1, [.int (nI 0), .int (nI 1), .int (-1), .int (nI 0), .int (nI 0), .int (nI 0), .null, .int (nI 0), .null, .int (nI 0), .null, .null, .int (nI 0)]))] := hD
  refine lv_aload_n hx hb d_BlockDeskModel_init_14 rfl (lv_at hl 0 rfl) ?_
  refine lv_sipush (v := nI 8000) hx hb d_BlockDeskModel_init_15 (by decide +kernel) ?_
  refine va_newa (atype := .int) (ty := .int) (N' := 8000) (a0 := (8000, .inl (fun _ => 0))) hx hb (hts (.arrayClass .int) (by decide +kernel)) rfl hK hP hD hS hA (fun _ => rfl) (nI_pos (by omega)) (nI_clamp (by omega)) (show (8000) * 4 ≤ 536870912 by omega) (show 0 + 1 ≤ 4 by omega) (show 0 + (8000) ≤ 36001 by omega) d_BlockDeskModel_init_18 (fun q1 k1 H hK hP hD hS => ?_)
  have hK : va_K (dC, dI) classes [(k1, .int)] s := hK
  have hP : va_P (dC, dI) classes [(b0, .inr (1, [.int (nI 0), .int (nI 1), .int (-1), .int (nI 0), .int (nI 0), .int (nI 0), .null, .int (nI 0), .null, .int (nI 0), .null, .null, .int (nI 0)])), (q1, .inl (k1, 8000, .inl (fun _ => 0)))] H := hP
  have hD : va_D A [(b0, .inr (1, [.int (nI 0), .int (nI 1), .int (-1), .int (nI 0), .int (nI 0), .int (nI 0), .null, .int (nI 0), .null, .int (nI 0), .null, .null, .int (nI 0)])), (q1, .inl (k1, 8000, .inl (fun _ => 0)))] := hD
  refine W.widen (k := 1) (n := 8000) (by omega) (by omega) ?_
  refine va_putF (D := (dC, dI)) (ci := 1) (v := .ref q1) (ty := (.array .int)) (C := R_BlockDeskModel) (T := F_BlockDeskModel) (N := 13) hx hb hts hin1 t_BlockDeskModel t_BlockDeskModel_ok n_BlockDeskModel hown hK hP hD hS 0 rfl rfl 6 (by decide) (hts (.fieldLink R_BlockDeskModel 17 "BlockDeskModel" "hand" "[I") (by decide +kernel)) (fun _ h9 => h9) rfl hin rfl (by decide +kernel) rfl rfl (Nat.le_of_ble_eq_true rfl) d_BlockDeskModel_init_20 (fun H locs hP hD hS => ?_)
  have hP : va_P (dC, dI) classes [(b0, .inr (1, [.int (nI 0), .int (nI 1), .int (-1), .int (nI 0), .int (nI 0), .int (nI 0), .ref q1, .int (nI 0), .null, .int (nI 0), .null, .null, .int (nI 0)])), (q1, .inl (k1, 8000, .inl (fun _ => 0)))] H := hP
  have hD : va_D A [(b0, .inr (1, [.int (nI 0), .int (nI 1), .int (-1), .int (nI 0), .int (nI 0), .int (nI 0), .ref q1, .int (nI 0), .null, .int (nI 0), .null, .null, .int (nI 0)])), (q1, .inl (k1, 8000, .inl (fun _ => 0)))] := hD
  refine lv_aload_n hx hb d_BlockDeskModel_init_23 rfl (lv_at hl 0 rfl) ?_
  refine lv_sipush (v := nI 8000) hx hb d_BlockDeskModel_init_24 (by decide +kernel) ?_
  refine va_newa (atype := .int) (ty := .int) (N' := 8000) (a0 := (8000, .inl (fun _ => 0))) hx hb (hts (.arrayClass .int) (by decide +kernel)) rfl hK hP hD hS hA (fun _ => rfl) (nI_pos (by omega)) (nI_clamp (by omega)) (show (8000) * 4 ≤ 536870912 by omega) (show 1 + 1 ≤ 4 by omega) (show 8000 + (8000) ≤ 36001 by omega) d_BlockDeskModel_init_27 (fun q2 k2 H hK hP hD hS => ?_)
  have hK : va_K (dC, dI) classes [(k1, .int), (k2, .int)] s := hK
  have hP : va_P (dC, dI) classes [(b0, .inr (1, [.int (nI 0), .int (nI 1), .int (-1), .int (nI 0), .int (nI 0), .int (nI 0), .ref q1, .int (nI 0), .null, .int (nI 0), .null, .null, .int (nI 0)])), (q1, .inl (k1, 8000, .inl (fun _ => 0))), (q2, .inl (k2, 8000, .inl (fun _ => 0)))] H := hP
  have hD : va_D A [(b0, .inr (1, [.int (nI 0), .int (nI 1), .int (-1), .int (nI 0), .int (nI 0), .int (nI 0), .ref q1, .int (nI 0), .null, .int (nI 0), .null, .null, .int (nI 0)])), (q1, .inl (k1, 8000, .inl (fun _ => 0))), (q2, .inl (k2, 8000, .inl (fun _ => 0)))] := hD
  refine W.widen (k := 2) (n := 16000) (by omega) (by omega) ?_
  refine va_putF (D := (dC, dI)) (ci := 1) (v := .ref q2) (ty := (.array .int)) (C := R_BlockDeskModel) (T := F_BlockDeskModel) (N := 13) hx hb hts hin1 t_BlockDeskModel t_BlockDeskModel_ok n_BlockDeskModel hown hK hP hD hS 0 rfl rfl 8 (by decide) (hts (.fieldLink R_BlockDeskModel 21 "BlockDeskModel" "shot" "[I") (by decide +kernel)) (fun _ h9 => h9) rfl hin rfl (by decide +kernel) rfl rfl (Nat.le_of_ble_eq_true rfl) d_BlockDeskModel_init_29 (fun H locs hP hD hS => ?_)
  have hP : va_P (dC, dI) classes [(b0, .inr (1, [.int (nI 0), .int (nI 1), .int (-1), .int (nI 0), .int (nI 0), .int (nI 0), .ref q1, .int (nI 0), .ref q2, .int (nI 0), .null, .null, .int (nI 0)])), (q1, .inl (k1, 8000, .inl (fun _ => 0))), (q2, .inl (k2, 8000, .inl (fun _ => 0)))] H := hP
  have hD : va_D A [(b0, .inr (1, [.int (nI 0), .int (nI 1), .int (-1), .int (nI 0), .int (nI 0), .int (nI 0), .ref q1, .int (nI 0), .ref q2, .int (nI 0), .null, .null, .int (nI 0)])), (q1, .inl (k1, 8000, .inl (fun _ => 0))), (q2, .inl (k2, 8000, .inl (fun _ => 0)))] := hD
  refine lv_aload_n hx hb d_BlockDeskModel_init_32 rfl (lv_at hl 0 rfl) ?_
  refine lv_sipush (v := nI 16000) hx hb d_BlockDeskModel_init_33 (by decide +kernel) ?_
  refine va_newa (atype := .int) (ty := .int) (N' := 16000) (a0 := (16000, .inl (fun _ => 0))) hx hb (hts (.arrayClass .int) (by decide +kernel)) rfl hK hP hD hS hA (fun _ => rfl) (nI_pos (by omega)) (nI_clamp (by omega)) (show (16000) * 4 ≤ 536870912 by omega) (show 2 + 1 ≤ 4 by omega) (show 16000 + (16000) ≤ 36001 by omega) d_BlockDeskModel_init_36 (fun q3 k3 H hK hP hD hS => ?_)
  have hK : va_K (dC, dI) classes [(k1, .int), (k2, .int), (k3, .int)] s := hK
  have hP : va_P (dC, dI) classes [(b0, .inr (1, [.int (nI 0), .int (nI 1), .int (-1), .int (nI 0), .int (nI 0), .int (nI 0), .ref q1, .int (nI 0), .ref q2, .int (nI 0), .null, .null, .int (nI 0)])), (q1, .inl (k1, 8000, .inl (fun _ => 0))), (q2, .inl (k2, 8000, .inl (fun _ => 0))), (q3, .inl (k3, 16000, .inl (fun _ => 0)))] H := hP
  have hD : va_D A [(b0, .inr (1, [.int (nI 0), .int (nI 1), .int (-1), .int (nI 0), .int (nI 0), .int (nI 0), .ref q1, .int (nI 0), .ref q2, .int (nI 0), .null, .null, .int (nI 0)])), (q1, .inl (k1, 8000, .inl (fun _ => 0))), (q2, .inl (k2, 8000, .inl (fun _ => 0))), (q3, .inl (k3, 16000, .inl (fun _ => 0)))] := hD
  refine W.widen (k := 3) (n := 32000) (by omega) (by omega) ?_
  refine va_putF (D := (dC, dI)) (ci := 1) (v := .ref q3) (ty := (.array .int)) (C := R_BlockDeskModel) (T := F_BlockDeskModel) (N := 13) hx hb hts hin1 t_BlockDeskModel t_BlockDeskModel_ok n_BlockDeskModel hown hK hP hD hS 0 rfl rfl 10 (by decide) (hts (.fieldLink R_BlockDeskModel 24 "BlockDeskModel" "bytes" "[I") (by decide +kernel)) (fun _ h9 => h9) rfl hin rfl (by decide +kernel) rfl rfl (Nat.le_of_ble_eq_true rfl) d_BlockDeskModel_init_38 (fun H locs hP hD hS => ?_)
  have hP : va_P (dC, dI) classes [(b0, .inr (1, [.int (nI 0), .int (nI 1), .int (-1), .int (nI 0), .int (nI 0), .int (nI 0), .ref q1, .int (nI 0), .ref q2, .int (nI 0), .ref q3, .null, .int (nI 0)])), (q1, .inl (k1, 8000, .inl (fun _ => 0))), (q2, .inl (k2, 8000, .inl (fun _ => 0))), (q3, .inl (k3, 16000, .inl (fun _ => 0)))] H := hP
  have hD : va_D A [(b0, .inr (1, [.int (nI 0), .int (nI 1), .int (-1), .int (nI 0), .int (nI 0), .int (nI 0), .ref q1, .int (nI 0), .ref q2, .int (nI 0), .ref q3, .null, .int (nI 0)])), (q1, .inl (k1, 8000, .inl (fun _ => 0))), (q2, .inl (k2, 8000, .inl (fun _ => 0))), (q3, .inl (k3, 16000, .inl (fun _ => 0)))] := hD
  refine lv_aload_n hx hb d_BlockDeskModel_init_41 rfl (lv_at hl 0 rfl) ?_
  refine lv_sipush (v := nI 4001) hx hb d_BlockDeskModel_init_42 (by decide +kernel) ?_
  refine va_newa (atype := .int) (ty := .int) (N' := 4001) (a0 := (4001, .inl (fun _ => 0))) hx hb (hts (.arrayClass .int) (by decide +kernel)) rfl hK hP hD hS hA (fun _ => rfl) (nI_pos (by omega)) (nI_clamp (by omega)) (show (4001) * 4 ≤ 536870912 by omega) (show 3 + 1 ≤ 4 by omega) (show 32000 + (4001) ≤ 36001 by omega) d_BlockDeskModel_init_45 (fun q4 k4 H hK hP hD hS => ?_)
  have hK : va_K (dC, dI) classes [(k1, .int), (k2, .int), (k3, .int), (k4, .int)] s := hK
  have hP : va_P (dC, dI) classes [(b0, .inr (1, [.int (nI 0), .int (nI 1), .int (-1), .int (nI 0), .int (nI 0), .int (nI 0), .ref q1, .int (nI 0), .ref q2, .int (nI 0), .ref q3, .null, .int (nI 0)])), (q1, .inl (k1, 8000, .inl (fun _ => 0))), (q2, .inl (k2, 8000, .inl (fun _ => 0))), (q3, .inl (k3, 16000, .inl (fun _ => 0))), (q4, .inl (k4, 4001, .inl (fun _ => 0)))] H := hP
  have hD : va_D A [(b0, .inr (1, [.int (nI 0), .int (nI 1), .int (-1), .int (nI 0), .int (nI 0), .int (nI 0), .ref q1, .int (nI 0), .ref q2, .int (nI 0), .ref q3, .null, .int (nI 0)])), (q1, .inl (k1, 8000, .inl (fun _ => 0))), (q2, .inl (k2, 8000, .inl (fun _ => 0))), (q3, .inl (k3, 16000, .inl (fun _ => 0))), (q4, .inl (k4, 4001, .inl (fun _ => 0)))] := hD
  refine W.widen (k := 4) (n := 36001) (by omega) (by omega) ?_
  refine va_putF (D := (dC, dI)) (ci := 1) (v := .ref q4) (ty := (.array .int)) (C := R_BlockDeskModel) (T := F_BlockDeskModel) (N := 13) hx hb hts hin1 t_BlockDeskModel t_BlockDeskModel_ok n_BlockDeskModel hown hK hP hD hS 0 rfl rfl 11 (by decide) (hts (.fieldLink R_BlockDeskModel 27 "BlockDeskModel" "starts" "[I") (by decide +kernel)) (fun _ h9 => h9) rfl hin rfl (by decide +kernel) rfl rfl (Nat.le_of_ble_eq_true rfl) d_BlockDeskModel_init_47 (fun H locs hP hD hS => ?_)
  have hP : va_P (dC, dI) classes [(b0, .inr (1, [.int (nI 0), .int (nI 1), .int (-1), .int (nI 0), .int (nI 0), .int (nI 0), .ref q1, .int (nI 0), .ref q2, .int (nI 0), .ref q3, .ref q4, .int (nI 0)])), (q1, .inl (k1, 8000, .inl (fun _ => 0))), (q2, .inl (k2, 8000, .inl (fun _ => 0))), (q3, .inl (k3, 16000, .inl (fun _ => 0))), (q4, .inl (k4, 4001, .inl (fun _ => 0)))] H := hP
  have hD : va_D A [(b0, .inr (1, [.int (nI 0), .int (nI 1), .int (-1), .int (nI 0), .int (nI 0), .int (nI 0), .ref q1, .int (nI 0), .ref q2, .int (nI 0), .ref q3, .ref q4, .int (nI 0)])), (q1, .inl (k1, 8000, .inl (fun _ => 0))), (q2, .inl (k2, 8000, .inl (fun _ => 0))), (q3, .inl (k3, 16000, .inl (fun _ => 0))), (q4, .inl (k4, 4001, .inl (fun _ => 0)))] := hD
  refine lv_aload_n hx hb d_BlockDeskModel_init_50 rfl (lv_at hl 0 rfl) ?_
  refine lv_iload_n hx hb d_BlockDeskModel_init_51 rfl (lv_at hl 1 rfl) ?_
  refine lv_iconst (v := nI 2) hx hb d_BlockDeskModel_init_52 (by decide +kernel) ?_
  refine lv_icmp_lt (tgt := 66) hx hb d_BlockDeskModel_init_53 (by decide) (fun c_53 => ?_) (fun c_53 => ?_)
  · have c_53 : n.toInt < ((2 : Nat) : Int) := (xq_lt_r (by omega)).mp c_53
    refine lv_bipush (v := nI 32) hx hb d_BlockDeskModel_init_66 (by decide +kernel) ?_
    refine xq_top (nI (zq_nN n)) (congrArg nI (zq_nN_b (by omega))) ?_
    refine va_putF (D := (dC, dI)) (ci := 1) (v := .int (nI (zq_nN n))) (ty := .int) (C := R_BlockDeskModel) (T := F_BlockDeskModel) (N := 13) hx hb hts hin1 t_BlockDeskModel t_BlockDeskModel_ok n_BlockDeskModel hown hK hP hD hS 0 rfl rfl 0 (by decide) (hts (.fieldLink R_BlockDeskModel 30 "BlockDeskModel" "blocks" "I") (by decide +kernel)) (fun _ h9 => h9) rfl hin rfl (by decide +kernel) rfl rfl (Nat.le_of_ble_eq_true rfl) d_BlockDeskModel_init_68 (fun H locs hP hD hS => ?_)
    have hP : va_P (dC, dI) classes [(b0, .inr (1, [.int (nI (zq_nN n)), .int (nI 1), .int (-1), .int (nI 0), .int (nI 0), .int (nI 0), .ref q1, .int (nI 0), .ref q2, .int (nI 0), .ref q3, .ref q4, .int (nI 0)])), (q1, .inl (k1, 8000, .inl (fun _ => 0))), (q2, .inl (k2, 8000, .inl (fun _ => 0))), (q3, .inl (k3, 16000, .inl (fun _ => 0))), (q4, .inl (k4, 4001, .inl (fun _ => 0)))] H := hP
    have hD : va_D A [(b0, .inr (1, [.int (nI (zq_nN n)), .int (nI 1), .int (-1), .int (nI 0), .int (nI 0), .int (nI 0), .ref q1, .int (nI 0), .ref q2, .int (nI 0), .ref q3, .ref q4, .int (nI 0)])), (q1, .inl (k1, 8000, .inl (fun _ => 0))), (q2, .inl (k2, 8000, .inl (fun _ => 0))), (q3, .inl (k3, 16000, .inl (fun _ => 0))), (q4, .inl (k4, 4001, .inl (fun _ => 0)))] := hD
    have hP9 := hP.sub (ws' := [(b0, .inr (1, [.int (nI (zq_nN n)), .int (nI 1), .int (-1), .int (nI 0), .int (nI 0), .int (nI 0), .ref q1, .int (nI 0), .ref q2, .int (nI 0), .ref q3, .ref q4, .int (nI 0)])), (q1, .inl (k1, 8000, .inl (fun _ => 0))), (q2, .inl (k2, 8000, .inl (fun _ => 0))), (q3, .inl (k3, 16000, .inl (fun _ => 0))), (q4, .inl (k4, 4001, .inl (fun _ => 0)))]) [0, 1, 2, 3, 4] rfl
    have hD9 := hD.sub (ws' := [(b0, .inr (1, [.int (nI (zq_nN n)), .int (nI 1), .int (-1), .int (nI 0), .int (nI 0), .int (nI 0), .ref q1, .int (nI 0), .ref q2, .int (nI 0), .ref q3, .ref q4, .int (nI 0)])), (q1, .inl (k1, 8000, .inl (fun _ => 0))), (q2, .inl (k2, 8000, .inl (fun _ => 0))), (q3, .inl (k3, 16000, .inl (fun _ => 0))), (q4, .inl (k4, 4001, .inl (fun _ => 0)))]) [0, 1, 2, 3, 4] (by decide) rfl
    have hK9 := hK.sub (tys' := [(k1, .int), (k2, .int), (k3, .int), (k4, .int)]) [0, 1, 2, 3] rfl
    exact W.vret hx hb hr (fun t ht hW => ⟨⟨(q1, q2, q3, q4, k1, k2, k3, k4), rfl, trivial, by rw [ht]; exact hP9, va_K.moved hW.alike hK9, hD9⟩, hS.F ht⟩) hS.2.2 d_BlockDeskModel_init_71
  · have c_53 : ¬ (n.toInt < ((2 : Nat) : Int)) := fun h9 => c_53 ((xq_lt_r (by omega)).mpr h9)
    refine lv_iload_n hx hb d_BlockDeskModel_init_56 rfl (lv_at hl 1 rfl) ?_
    refine lv_bipush (v := nI 32) hx hb d_BlockDeskModel_init_57 (by decide +kernel) ?_
    refine lv_icmp_gt (tgt := 66) hx hb d_BlockDeskModel_init_59 (by decide) (fun c_59 => ?_) (fun c_59 => ?_)
    · have c_59 : ((32 : Nat) : Int) < n.toInt := (xq_lt_l (by omega)).mp c_59
      refine lv_bipush (v := nI 32) hx hb d_BlockDeskModel_init_66 (by decide +kernel) ?_
      refine xq_top (nI (zq_nN n)) (congrArg nI (zq_nN_b (by omega))) ?_
      refine va_putF (D := (dC, dI)) (ci := 1) (v := .int (nI (zq_nN n))) (ty := .int) (C := R_BlockDeskModel) (T := F_BlockDeskModel) (N := 13) hx hb hts hin1 t_BlockDeskModel t_BlockDeskModel_ok n_BlockDeskModel hown hK hP hD hS 0 rfl rfl 0 (by decide) (hts (.fieldLink R_BlockDeskModel 30 "BlockDeskModel" "blocks" "I") (by decide +kernel)) (fun _ h9 => h9) rfl hin rfl (by decide +kernel) rfl rfl (Nat.le_of_ble_eq_true rfl) d_BlockDeskModel_init_68 (fun H locs hP hD hS => ?_)
      have hP : va_P (dC, dI) classes [(b0, .inr (1, [.int (nI (zq_nN n)), .int (nI 1), .int (-1), .int (nI 0), .int (nI 0), .int (nI 0), .ref q1, .int (nI 0), .ref q2, .int (nI 0), .ref q3, .ref q4, .int (nI 0)])), (q1, .inl (k1, 8000, .inl (fun _ => 0))), (q2, .inl (k2, 8000, .inl (fun _ => 0))), (q3, .inl (k3, 16000, .inl (fun _ => 0))), (q4, .inl (k4, 4001, .inl (fun _ => 0)))] H := hP
      have hD : va_D A [(b0, .inr (1, [.int (nI (zq_nN n)), .int (nI 1), .int (-1), .int (nI 0), .int (nI 0), .int (nI 0), .ref q1, .int (nI 0), .ref q2, .int (nI 0), .ref q3, .ref q4, .int (nI 0)])), (q1, .inl (k1, 8000, .inl (fun _ => 0))), (q2, .inl (k2, 8000, .inl (fun _ => 0))), (q3, .inl (k3, 16000, .inl (fun _ => 0))), (q4, .inl (k4, 4001, .inl (fun _ => 0)))] := hD
      have hP9 := hP.sub (ws' := [(b0, .inr (1, [.int (nI (zq_nN n)), .int (nI 1), .int (-1), .int (nI 0), .int (nI 0), .int (nI 0), .ref q1, .int (nI 0), .ref q2, .int (nI 0), .ref q3, .ref q4, .int (nI 0)])), (q1, .inl (k1, 8000, .inl (fun _ => 0))), (q2, .inl (k2, 8000, .inl (fun _ => 0))), (q3, .inl (k3, 16000, .inl (fun _ => 0))), (q4, .inl (k4, 4001, .inl (fun _ => 0)))]) [0, 1, 2, 3, 4] rfl
      have hD9 := hD.sub (ws' := [(b0, .inr (1, [.int (nI (zq_nN n)), .int (nI 1), .int (-1), .int (nI 0), .int (nI 0), .int (nI 0), .ref q1, .int (nI 0), .ref q2, .int (nI 0), .ref q3, .ref q4, .int (nI 0)])), (q1, .inl (k1, 8000, .inl (fun _ => 0))), (q2, .inl (k2, 8000, .inl (fun _ => 0))), (q3, .inl (k3, 16000, .inl (fun _ => 0))), (q4, .inl (k4, 4001, .inl (fun _ => 0)))]) [0, 1, 2, 3, 4] (by decide) rfl
      have hK9 := hK.sub (tys' := [(k1, .int), (k2, .int), (k3, .int), (k4, .int)]) [0, 1, 2, 3] rfl
      exact W.vret hx hb hr (fun t ht hW => ⟨⟨(q1, q2, q3, q4, k1, k2, k3, k4), rfl, trivial, by rw [ht]; exact hP9, va_K.moved hW.alike hK9, hD9⟩, hS.F ht⟩) hS.2.2 d_BlockDeskModel_init_71
    · have c_59 : ¬ (((32 : Nat) : Int) < n.toInt) := fun h9 => c_59 ((xq_lt_l (by omega)).mpr h9)
      refine lv_iload_n hx hb d_BlockDeskModel_init_62 rfl (lv_at hl 1 rfl) ?_
      refine lv_goto (tgt := 68) hx hb d_BlockDeskModel_init_63 (by decide) ?_
      refine xq_top (nI (zq_nN n)) (zq_nN_a c_53 c_59) ?_
      refine va_putF (D := (dC, dI)) (ci := 1) (v := .int (nI (zq_nN n))) (ty := .int) (C := R_BlockDeskModel) (T := F_BlockDeskModel) (N := 13) hx hb hts hin1 t_BlockDeskModel t_BlockDeskModel_ok n_BlockDeskModel hown hK hP hD hS 0 rfl rfl 0 (by decide) (hts (.fieldLink R_BlockDeskModel 30 "BlockDeskModel" "blocks" "I") (by decide +kernel)) (fun _ h9 => h9) rfl hin rfl (by decide +kernel) rfl rfl (Nat.le_of_ble_eq_true rfl) d_BlockDeskModel_init_68 (fun H locs hP hD hS => ?_)
      have hP : va_P (dC, dI) classes [(b0, .inr (1, [.int (nI (zq_nN n)), .int (nI 1), .int (-1), .int (nI 0), .int (nI 0), .int (nI 0), .ref q1, .int (nI 0), .ref q2, .int (nI 0), .ref q3, .ref q4, .int (nI 0)])), (q1, .inl (k1, 8000, .inl (fun _ => 0))), (q2, .inl (k2, 8000, .inl (fun _ => 0))), (q3, .inl (k3, 16000, .inl (fun _ => 0))), (q4, .inl (k4, 4001, .inl (fun _ => 0)))] H := hP
      have hD : va_D A [(b0, .inr (1, [.int (nI (zq_nN n)), .int (nI 1), .int (-1), .int (nI 0), .int (nI 0), .int (nI 0), .ref q1, .int (nI 0), .ref q2, .int (nI 0), .ref q3, .ref q4, .int (nI 0)])), (q1, .inl (k1, 8000, .inl (fun _ => 0))), (q2, .inl (k2, 8000, .inl (fun _ => 0))), (q3, .inl (k3, 16000, .inl (fun _ => 0))), (q4, .inl (k4, 4001, .inl (fun _ => 0)))] := hD
      have hP9 := hP.sub (ws' := [(b0, .inr (1, [.int (nI (zq_nN n)), .int (nI 1), .int (-1), .int (nI 0), .int (nI 0), .int (nI 0), .ref q1, .int (nI 0), .ref q2, .int (nI 0), .ref q3, .ref q4, .int (nI 0)])), (q1, .inl (k1, 8000, .inl (fun _ => 0))), (q2, .inl (k2, 8000, .inl (fun _ => 0))), (q3, .inl (k3, 16000, .inl (fun _ => 0))), (q4, .inl (k4, 4001, .inl (fun _ => 0)))]) [0, 1, 2, 3, 4] rfl
      have hD9 := hD.sub (ws' := [(b0, .inr (1, [.int (nI (zq_nN n)), .int (nI 1), .int (-1), .int (nI 0), .int (nI 0), .int (nI 0), .ref q1, .int (nI 0), .ref q2, .int (nI 0), .ref q3, .ref q4, .int (nI 0)])), (q1, .inl (k1, 8000, .inl (fun _ => 0))), (q2, .inl (k2, 8000, .inl (fun _ => 0))), (q3, .inl (k3, 16000, .inl (fun _ => 0))), (q4, .inl (k4, 4001, .inl (fun _ => 0)))]) [0, 1, 2, 3, 4] (by decide) rfl
      have hK9 := hK.sub (tys' := [(k1, .int), (k2, .int), (k3, .int), (k4, .int)]) [0, 1, 2, 3] rfl
      exact W.vret hx hb hr (fun t ht hW => ⟨⟨(q1, q2, q3, q4, k1, k2, k3, k4), rfl, trivial, by rw [ht]; exact hP9, va_K.moved hW.alike hK9, hD9⟩, hS.F ht⟩) hS.2.2 d_BlockDeskModel_init_71
