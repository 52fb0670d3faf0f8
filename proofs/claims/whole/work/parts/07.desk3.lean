set_option maxHeartbeats 4000000 in
set_option maxRecDepth 100000 in
theorem lp_D_put {p : Program} {l : Launch} {e : Env} {s : State} {m : MethodId} {args : Array Value} {below : List Frame} {meth : Method} {c : Code} {Q : State → Prop} {A : Nat → Prop} {dC : Nat → ClassId} {dI : Nat → Nat → Nat} (hx : p.tables.exec = Jvm.exec) (hb : c.code = b_BlockDesk_put) (hml : c.maxLocals = 5) (hts : ∀ w ∈ w_BlockDesk_put, w.before args s = true) (hown : s.vm.findClass R_BlockDesk = some m.cls) (hA : ∀ q : Nat, s.heap.size ≤ q → A q) (a0 : Nat) (a1 : Nat) (a2 : Nat) (a3 : Nat) (a4 : Nat) (rc : Nat) (bg : Nat) (ss : Nat) (hs : Nat) (k : Nat) (up : Int32) (ch : Int32) (wr : Int32) (k4 : ClassId) (v : Int64) (f4 : Nat → Int32) (hk : hs + k ≤ 8000) (hk8 : k ≤ 8) (hK : va_K (dC, dI) classes [(k4, .byte)] s) (KK : ∀ (f : Nat → Int32) (H : Heap) (locs : List Loc), zq_app f4 f hs k (fun z => (zq_pbv v (k - 1 - z)).toInt8.toInt32) → va_P (dC, dI) classes [(a0, .inr (0, [.ref a1, .ref a2, .int (nI rc), .int (nI bg), .ref a3, .int (nI ss), .ref a4, .int (nI (hs + k)), .int up, .int ch, .int wr])), (a4, .inl (k4, 8000, .inl f))] H → va_D A [(a0, .inr (0, [.ref a1, .ref a2, .int (nI rc), .int (nI bg), .ref a3, .int (nI ss), .ref a4, .int (nI (hs + k)), .int up, .int ch, .int wr])), (a4, .inl (k4, 8000, .inl f))] → va_S A s.heap H locs → ∀ ls : Array Slot, lv_has ls 5 [(4, .int (-1)), (0, .ref a0), (1, .long v), (3, .int (nI k))] → W p l e ({ frames := 1, cells := 0, slots := 0, locals := 22 } : Room) s m args below meth c H locs 0 0 Q (F0 m 65 ls [])) : ∀ (n d : Nat) (f : Nat → Int32) (H : Heap) (locs : List Loc), d + n = k → zq_app f4 f hs d (fun z => (zq_pbv v (k - 1 - z)).toInt8.toInt32) → va_P (dC, dI) classes [(a0, .inr (0, [.ref a1, .ref a2, .int (nI rc), .int (nI bg), .ref a3, .int (nI ss), .ref a4, .int (nI (hs + d)), .int up, .int ch, .int wr])), (a4, .inl (k4, 8000, .inl f))] H → va_D A [(a0, .inr (0, [.ref a1, .ref a2, .int (nI rc), .int (nI bg), .ref a3, .int (nI ss), .ref a4, .int (nI (hs + d)), .int up, .int ch, .int wr])), (a4, .inl (k4, 8000, .inl f))] → va_S A s.heap H locs → ∀ ls : Array Slot, lv_has ls 5 [(4, .int (zq_pd n)), (0, .ref a0), (1, .long v), (3, .int (nI k))] → W p l e ({ frames := 1, cells := 0, slots := 0, locals := 22 } : Room) s m args below meth c H locs 0 0 Q (F0 m 26 ls []) := by
  have hin0 : ∀ w ∈ u_ws R_BlockDesk F_BlockDesk 11, w ∈ w_BlockDesk_put := by decide +kernel
  intro n
  induction n with
  | zero =>
    intro d f H locs hdn hI hP hD hS ls hl
    have hdn : k = d := by omega
    subst hdn
    have hl : lv_has ls 5 [(4, .int (-1)), (0, .ref a0), (1, .long v), (3, .int (nI k))] := hl
    refine lv_iload hx hb d_BlockDesk_put_26 (lv_at hl 0 rfl) ?_
    refine lv_if_lt (tgt := 65) hx hb d_BlockDesk_put_28 (by decide) (fun c_28 => ?_) (fun c_28 => ?_)
    · exact KK f _ _ hI (hP.sub [0, 1] rfl) (hD.sub [0, 1] (by decide) rfl) hS ls (lv_sub hl [0, 1, 2, 3] rfl)
    · exact absurd (by decide +kernel) c_28
  | succ n ih =>
    intro d f H locs hdn hI hP hD hS ls hl
    have hl : lv_has ls 5 [(4, .int (nI n)), (0, .ref a0), (1, .long v), (3, .int (nI k))] := hl
    refine lv_iload hx hb d_BlockDesk_put_26 (lv_at hl 0 rfl) ?_
    refine lv_if_lt (tgt := 65) hx hb d_BlockDesk_put_28 (by decide) (fun c_28 => ?_) (fun c_28 => ?_)
    · have c_28 : ((n : Nat) : Int) < 0 := (xq_lt_n0 (by omega)).mp c_28
      exact absurd c_28 (by omega)
    · have c_28 : ¬ (((n : Nat) : Int) < 0) := fun h9 => c_28 ((xq_lt_n0 (by omega)).mpr h9)
      refine lv_aload_n hx hb d_BlockDesk_put_31 rfl (lv_at hl 1 rfl) ?_
      refine va_get (D := (dC, dI)) (ci := 0) (v := .ref a4) (C := R_BlockDesk) (T := F_BlockDesk) (N := 11) hx hb hts hin0 hown hK hP 0 rfl rfl 6 (by decide) (hts (.fieldLink R_BlockDesk 20 "BlockDesk" "handBytes" "[B") (by decide +kernel)) (fun _ h9 => h9) rfl d_BlockDesk_put_32 ?_
      refine lv_aload_n hx hb d_BlockDesk_put_35 rfl (lv_at hl 1 rfl) ?_
      refine va_get (D := (dC, dI)) (ci := 0) (v := .int (nI (hs + d))) (C := R_BlockDesk) (T := F_BlockDesk) (N := 11) hx hb hts hin0 hown hK hP 0 rfl rfl 7 (by decide) (hts (.fieldLink R_BlockDesk 35 "BlockDesk" "handSize" "I") (by decide +kernel)) (fun _ h9 => h9) rfl d_BlockDesk_put_36 ?_
      refine lv_lload_n hx hb d_BlockDesk_put_39 rfl (lv_at hl 2 rfl) ?_
      refine lv_bipush (v := nI 8) hx hb d_BlockDesk_put_40 (by decide +kernel) ?_
      refine lv_iload hx hb d_BlockDesk_put_42 (lv_at hl 0 rfl) ?_
      refine lv_imul hx hb d_BlockDesk_put_44 ?_
      refine xq_top (nI (8 * n)) (pk_mul _ _) ?_
      refine lv_lshr (v := v >>> ((nI (8 * n)).toInt64 &&& 63)) hx hb d_BlockDesk_put_45 rfl ?_
      refine lv_l2i (v := (v >>> ((nI (8 * n)).toInt64 &&& 63)).toInt32) hx hb d_BlockDesk_put_46 rfl ?_
      refine lv_i2b (v := ((v >>> ((nI (8 * n)).toInt64 &&& 63)).toInt32).toInt8.toInt32) hx hb d_BlockDesk_put_47 rfl ?_
      refine va_bast hx hb hK hP hD hS 1 0 rfl rfl (vp_in_nI (by omega) (by omega)) d_BlockDesk_put_48 (fun H locs hP hD hS => ?_)
      rw [pk_vb] at hP hD
      rw [nI_clamp (n := hs + d) (by omega)] at hP hD
      have hP : va_P (dC, dI) classes [(a0, .inr (0, [.ref a1, .ref a2, .int (nI rc), .int (nI bg), .ref a3, .int (nI ss), .ref a4, .int (nI (hs + d)), .int up, .int ch, .int wr])), (a4, .inl (k4, 8000, .inl (upd f (hs + d) (((v >>> ((nI (8 * n)).toInt64 &&& 63)).toInt32).toInt8.toInt32))))] H := hP
      have hD : va_D A [(a0, .inr (0, [.ref a1, .ref a2, .int (nI rc), .int (nI bg), .ref a3, .int (nI ss), .ref a4, .int (nI (hs + d)), .int up, .int ch, .int wr])), (a4, .inl (k4, 8000, .inl (upd f (hs + d) (((v >>> ((nI (8 * n)).toInt64 &&& 63)).toInt32).toInt8.toInt32))))] := hD
      refine lv_aload_n hx hb d_BlockDesk_put_49 rfl (lv_at hl 1 rfl) ?_
      refine lv_dup hx hb d_BlockDesk_put_50 rfl ?_
      refine va_get (D := (dC, dI)) (ci := 0) (v := .int (nI (hs + d))) (C := R_BlockDesk) (T := F_BlockDesk) (N := 11) hx hb hts hin0 hown hK hP 0 rfl rfl 7 (by decide) (hts (.fieldLink R_BlockDesk 35 "BlockDesk" "handSize" "I") (by decide +kernel)) (fun _ h9 => h9) rfl d_BlockDesk_put_51 ?_
      refine lv_iconst (v := nI 1) hx hb d_BlockDesk_put_54 (by decide +kernel) ?_
      refine lv_iadd hx hb d_BlockDesk_put_55 ?_
      refine xq_top (nI (hs + d + 1)) (nI_add _ _) ?_
      refine va_put (D := (dC, dI)) (ci := 0) (v := .int (nI (hs + d + 1))) (ty := .int) (C := R_BlockDesk) (T := F_BlockDesk) (N := 11) hx hb hts hin0 t_BlockDesk t_BlockDesk_ok n_BlockDesk hown hK hP hD hS 0 rfl rfl 7 (by decide) (hts (.fieldLink R_BlockDesk 35 "BlockDesk" "handSize" "I") (by decide +kernel)) (fun _ h9 => h9) rfl (by decide +kernel) rfl rfl (Nat.le_of_ble_eq_true rfl) d_BlockDesk_put_56 (fun H locs hP hD hS => ?_)
      have hP : va_P (dC, dI) classes [(a0, .inr (0, [.ref a1, .ref a2, .int (nI rc), .int (nI bg), .ref a3, .int (nI ss), .ref a4, .int (nI (hs + d + 1)), .int up, .int ch, .int wr])), (a4, .inl (k4, 8000, .inl (upd f (hs + d) (((v >>> ((nI (8 * n)).toInt64 &&& 63)).toInt32).toInt8.toInt32))))] H := hP
      have hD : va_D A [(a0, .inr (0, [.ref a1, .ref a2, .int (nI rc), .int (nI bg), .ref a3, .int (nI ss), .ref a4, .int (nI (hs + d + 1)), .int up, .int ch, .int wr])), (a4, .inl (k4, 8000, .inl (upd f (hs + d) (((v >>> ((nI (8 * n)).toInt64 &&& 63)).toInt32).toInt8.toInt32))))] := hD
      refine lv_iinc (v := zq_pd n) (lv' := [(4, .int (zq_pd n)), (0, .ref a0), (1, .long v), (3, .int (nI k))]) hx hb d_BlockDesk_put_59 hl (k := 0) rfl (xq_pd n) (by decide) rfl (fun ls hl => ?_)
      refine lv_goto (tgt := 26) hx hb d_BlockDesk_put_62 (by decide) ?_
      exact ih (d + 1) _ _ _ (by omega) (zq_app_s hI (by show _ = (zq_pbv v (k - 1 - d)).toInt8.toInt32; rw [show k - 1 - d = n by omega]; rfl)) (hP.sub [0, 1] rfl) (hD.sub [0, 1] (by decide) rfl) hS ls (lv_sub hl [0, 1, 2, 3] rfl)
set_option maxHeartbeats 4000000 in
set_option maxRecDepth 100000 in
theorem c_BlockDesk_put (l : Launch) (dC : Nat → ClassId) (dI : Nat → Nat → Nat) (sz : Nat) (a0 : Nat) (a1 : Nat) (a2 : Nat) (a3 : Nat) (a4 : Nat) (rc : Nat) (bg : Nat) (ss : Nat) (hs : Nat) (up : Int32) (ch : Int32) (wr : Int32) (k4 : ClassId) (f4 : Nat → Int32) (v : Int64) (n : Int32) (hhs : hs ≤ 8000) : Met l y_BlockDesk_put w_BlockDesk_put ({ frames := 1, cells := 0, slots := 0, locals := 22 }) (va_Pc [.ref a0, .long v, .int n] (fun U => U.heap.size = sz ∧ va_P (dC, dI) classes [(a0, .inr (0, [.ref a1, .ref a2, .int (nI rc), .int (nI bg), .ref a3, .int (nI ss), .ref a4, .int (nI hs), .int up, .int ch, .int wr])), (a4, .inl (k4, 8000, .inl f4))] U.heap ∧ va_K (dC, dI) classes [(k4, .byte)] U ∧ va_D (fun _ => True) [(a0, .inr (0, [.ref a1, .ref a2, .int (nI rc), .int (nI bg), .ref a3, .int (nI ss), .ref a4, .int (nI hs), .int up, .int ch, .int wr])), (a4, .inl (k4, 8000, .inl f4))])) (va_Qi (fun (r : Int32) (u : Nat × (Nat → Int32)) => (zq_okP up hs 8 n ∧ r = nI 1 ∧ u.1 = hs + n.toNatClampNeg ∧ zq_app f4 u.2 hs n.toNatClampNeg (fun z => (zq_pbv v (n.toNatClampNeg - 1 - z)).toInt8.toInt32)) ∨ (¬ zq_okP up hs 8 n ∧ r = nI 0 ∧ u = (hs, f4))) (fun (u : Nat × (Nat → Int32)) (t : State) => match u with | (hs', f') => va_P (dC, dI) classes [(a0, .inr (0, [.ref a1, .ref a2, .int (nI rc), .int (nI bg), .ref a3, .int (nI ss), .ref a4, .int (nI hs'), .int up, .int ch, .int wr])), (a4, .inl (k4, 8000, .inl f'))] t.heap ∧ va_K (dC, dI) classes [(k4, .byte)] t ∧ va_D (va_A [(a0, .inr (0, [.ref a1, .ref a2, .int (nI rc), .int (nI bg), .ref a3, .int (nI ss), .ref a4, .int (nI hs), .int up, .int ch, .int wr])), (a4, .inl (k4, 8000, .inl f4))] sz) [(a0, .inr (0, [.ref a1, .ref a2, .int (nI rc), .int (nI bg), .ref a3, .int (nI ss), .ref a4, .int (nI hs'), .int up, .int ch, .int wr])), (a4, .inl (k4, 8000, .inl f'))]) (va_A [(a0, .inr (0, [.ref a1, .ref a2, .int (nI rc), .int (nI bg), .ref a3, .int (nI ss), .ref a4, .int (nI hs), .int up, .int ch, .int wr])), (a4, .inl (k4, 8000, .inl f4))] sz)) 0 0 (va_A [(a0, .inr (0, [.ref a1, .ref a2, .int (nI rc), .int (nI bg), .ref a3, .int (nI ss), .ref a4, .int (nI hs), .int up, .int ch, .int wr])), (a4, .inl (k4, 8000, .inl f4))] sz) := by
  refine Met.ofW (cc := b_BlockDesk_put) (maxL := 5) (ret := (some .boolean)) (by decide) rfl ?_
  intro p e s m args below meth c s₁ B hml hv
  obtain ⟨rfl, hsz, hP, hK, hD0⟩ := hv
  have hx := B.exec
  have hb := B.bytes
  have hr := B.returns
  have hts := atoms_spec (ws := w_BlockDesk_put) B.pre
  have hown : s.vm.findClass R_BlockDesk = some m.cls := findClass_of_methodNamed B.named
  have hlocks := B.notSynchronized
  subst hsz
  have hD := hD0.self (sz := s.heap.size)
  generalize hAe : va_A [(a0, .inr (0, [.ref a1, .ref a2, .int (nI rc), .int (nI bg), .ref a3, .int (nI ss), .ref a4, .int (nI hs), .int up, .int ch, .int wr])), (a4, .inl (k4, 8000, .inl f4))] s.heap.size = A at hD ⊢
  have hA : ∀ q : Nat, s.heap.size ≤ q → A q := fun q h => by rw [← hAe]; exact Or.inr h
  have hS : va_S A s.heap s.heap [] := va_S.rf
  have hP : va_P (dC, dI) classes [(a0, .inr (0, [.ref a1, .ref a2, .int (nI rc), .int (nI bg), .ref a3, .int (nI ss), .ref a4, .int (nI hs), .int up, .int ch, .int wr])), (a4, .inl (k4, 8000, .inl f4))] s.heap := hP
  have hin0 : ∀ w ∈ u_ws R_BlockDesk F_BlockDesk 11, w ∈ w_BlockDesk_put := by decide +kernel
  have hl := lv_entry ([.ref a0, .long v, .int n]) (n := 5) (Nat.le_of_ble_eq_true rfl)
  rw [lg_entry_eq]
  generalize (lg_sl ([.ref a0, .long v, .int n]) ++ List.replicate (5 - (lg_sl ([.ref a0, .long v, .int n])).length) Slot.unset).toArray = ls at hl ⊢
  have hl : lv_has ls 5 [(0, .ref a0), (1, .long v), (3, .int n)] := hl
  refine lv_iload_n hx hb d_BlockDesk_put_0 rfl (lv_at hl 2 rfl) ?_
  refine lv_iconst (v := nI 1) hx hb d_BlockDesk_put_1 (by decide +kernel) ?_
  refine lv_icmp_lt (tgt := 19) hx hb d_BlockDesk_put_2 (by decide) (fun c_2 => ?_) (fun c_2 => ?_)
  · have c_2 : n.toInt < ((1 : Nat) : Int) := (xq_lt_r (by omega)).mp c_2
    refine lv_iconst (v := nI 0) hx hb d_BlockDesk_put_19 (by decide +kernel) ?_
    have hP9 := hP.sub (ws' := [(a0, .inr (0, [.ref a1, .ref a2, .int (nI rc), .int (nI bg), .ref a3, .int (nI ss), .ref a4, .int (nI hs), .int up, .int ch, .int wr])), (a4, .inl (k4, 8000, .inl f4))]) [0, 1] rfl
    have hD9 := hD.sub (ws' := [(a0, .inr (0, [.ref a1, .ref a2, .int (nI rc), .int (nI bg), .ref a3, .int (nI ss), .ref a4, .int (nI hs), .int up, .int ch, .int wr])), (a4, .inl (k4, 8000, .inl f4))]) [0, 1] (by decide) rfl
    have hK9 := hK.sub (tys' := [(k4, .byte)]) [0] rfl
    exact W.zret (v := nI 0) hx hb hr zq_nb0 (fun t ht hW => ⟨⟨nI 0, (hs, f4), rfl, Or.inr ⟨fun h9 => by have q1 := h9.1; have q2 := h9.2.1; have q3 := h9.2.2.1; have q4 := h9.2.2.2; first | omega | exact absurd c_4 q1 | exact (by rcases hno with h | h; exact q1 h; omega), rfl, rfl⟩, by rw [ht]; exact hP9, va_K.moved hW.alike hK9, hD9⟩, hS.F ht⟩) hS.2.2 d_BlockDesk_put_20
  · have c_2 : ¬ (n.toInt < ((1 : Nat) : Int)) := fun h9 => c_2 ((xq_lt_r (by omega)).mpr h9)
    refine lv_iload_n hx hb d_BlockDesk_put_5 rfl (lv_at hl 2 rfl) ?_
    refine lv_bipush (v := nI 8) hx hb d_BlockDesk_put_6 (by decide +kernel) ?_
    refine lv_icmp_gt (tgt := 19) hx hb d_BlockDesk_put_8 (by decide) (fun c_8 => ?_) (fun c_8 => ?_)
    · have c_8 : ((8 : Nat) : Int) < n.toInt := (xq_lt_l (by omega)).mp c_8
      refine lv_iconst (v := nI 0) hx hb d_BlockDesk_put_19 (by decide +kernel) ?_
      have hP9 := hP.sub (ws' := [(a0, .inr (0, [.ref a1, .ref a2, .int (nI rc), .int (nI bg), .ref a3, .int (nI ss), .ref a4, .int (nI hs), .int up, .int ch, .int wr])), (a4, .inl (k4, 8000, .inl f4))]) [0, 1] rfl
      have hD9 := hD.sub (ws' := [(a0, .inr (0, [.ref a1, .ref a2, .int (nI rc), .int (nI bg), .ref a3, .int (nI ss), .ref a4, .int (nI hs), .int up, .int ch, .int wr])), (a4, .inl (k4, 8000, .inl f4))]) [0, 1] (by decide) rfl
      have hK9 := hK.sub (tys' := [(k4, .byte)]) [0] rfl
      exact W.zret (v := nI 0) hx hb hr zq_nb0 (fun t ht hW => ⟨⟨nI 0, (hs, f4), rfl, Or.inr ⟨fun h9 => by have q1 := h9.1; have q2 := h9.2.1; have q3 := h9.2.2.1; have q4 := h9.2.2.2; first | omega | exact absurd c_4 q1 | exact (by rcases hno with h | h; exact q1 h; omega), rfl, rfl⟩, by rw [ht]; exact hP9, va_K.moved hW.alike hK9, hD9⟩, hS.F ht⟩) hS.2.2 d_BlockDesk_put_20
    · have c_8 : ¬ (((8 : Nat) : Int) < n.toInt) := fun h9 => c_8 ((xq_lt_l (by omega)).mpr h9)
      refine lv_aload_n hx hb d_BlockDesk_put_11 rfl (lv_at hl 0 rfl) ?_
      refine lv_iload_n hx hb d_BlockDesk_put_12 rfl (lv_at hl 2 rfl) ?_
      have hPc := hP.sub (ws' := [(a0, .inr (0, [.ref a1, .ref a2, .int (nI rc), .int (nI bg), .ref a3, .int (nI ss), .ref a4, .int (nI hs), .int up, .int ch, .int wr]))]) [0] rfl
      have hDc := hD.sub (ws' := [(a0, .inr (0, [.ref a1, .ref a2, .int (nI rc), .int (nI bg), .ref a3, .int (nI ss), .ref a4, .int (nI hs), .int up, .int ch, .int wr]))]) [0] (by decide) rfl
      have hKc := hK.sub (tys' := []) [] rfl
      have hFc := va_free (wc := [(a0, .inr (0, [.ref a1, .ref a2, .int (nI rc), .int (nI bg), .ref a3, .int (nI ss), .ref a4, .int (nI hs), .int up, .int ch, .int wr]))]) hD hS hA [0] rfl
      refine va_calli (va_runV (As := [.int n]) (rest := []) ⟨hx, hb, hml, hown, hts⟩ (c_BlockDesk_handTakes l dC dI s.heap.size a0 a1 a2 a3 a4 rc bg ss hs up ch wr n hhs) (cwV 1 hts g_BlockDesk_put_BlockDesk_handTakes rfl rfl rfl (by decide +kernel) ⟨Nat.le_of_ble_eq_true rfl, Nat.le_of_ble_eq_true rfl⟩) ⟨fun a U g mk q => by obtain ⟨q0, q1, qP, qK, qD⟩ := q; exact ⟨q0, q1, qP, va_K.moved (u := U) (U := U.calling g mk a) (Vm.Alike.refl U.vm) qK, qD⟩, va_recv hKc hPc (ci := 0) (q0 := 0) rfl rfl, fun U hU hW => ⟨rfl, by rw [hU], by rw [hU]; exact hPc, va_K.moved hW.alike hKc, hDc.weaken (fun _ _ _ _ => trivial)⟩⟩ rfl rfl hl.1 rfl (lv_room (Nat.le_of_ble_eq_true rfl)) d_BlockDesk_put_13 ⟨(Nat.zero_le _), (Nat.zero_le _)⟩) hS (fun q _ h => hFc q h) hFc (fun r_13 u t H1 locs ht hvm hw hB hz1 hk1 hS => ?_)
      obtain ⟨hP1, hK1, hD1⟩ := hB
      rw [ht] at hP1
      try dsimp only at hw
      obtain ⟨hP, hD⟩ := va_join (wr := [(a4, .inl (k4, 8000, .inl f4))]) (w1 := [(a0, .inr (0, [.ref a1, .ref a2, .int (nI rc), .int (nI bg), .ref a3, .int (nI ss), .ref a4, .int (nI hs), .int up, .int ch, .int wr]))]) hP hD [0] [1] rfl rfl (by decide) (by decide) hk1 hFc hP1 hD1
      generalize H1 = H at hP hS ⊢
      have hP : va_P (dC, dI) classes [(a4, .inl (k4, 8000, .inl f4)), (a0, .inr (0, [.ref a1, .ref a2, .int (nI rc), .int (nI bg), .ref a3, .int (nI ss), .ref a4, .int (nI hs), .int up, .int ch, .int wr]))] H := hP
      have hD : va_D A [(a4, .inl (k4, 8000, .inl f4)), (a0, .inr (0, [.ref a1, .ref a2, .int (nI rc), .int (nI bg), .ref a3, .int (nI ss), .ref a4, .int (nI hs), .int up, .int ch, .int wr]))] := hD
      rcases hw with ⟨rfl, hup, hn8⟩ | ⟨rfl, hno⟩
      · have h8 : True := trivial
        refine lv_if_ne (tgt := 21) hx hb d_BlockDesk_put_16 (by decide) (fun c_16 => ?_) (fun c_16 => ?_)
        · obtain ⟨k, -, rfl, hkI, hkN⟩ := xq_nat (x := n) (by omega)
          have hl : lv_has ls 5 [(0, .ref a0), (1, .long v), (3, .int (nI k))] := hl
          obtain ⟨k0, rfl⟩ : ∃ k0, k = k0 + 1 := ⟨k - 1, by omega⟩
          refine lv_iload_n hx hb d_BlockDesk_put_21 rfl (lv_at hl 2 rfl) ?_
          refine lv_iconst (v := nI 1) hx hb d_BlockDesk_put_22 (by decide +kernel) ?_
          refine lv_isub hx hb d_BlockDesk_put_23 ?_
          refine xq_top (nI (k0 + 1 - 1)) (pk_sub (by omega)) ?_
          refine lv_istore (lv' := [(4, .int (nI (k0 + 1 - 1))), (0, .ref a0), (1, .long v), (3, .int (nI (k0 + 1)))]) hx hb d_BlockDesk_put_24 hl (by decide) rfl (fun ls hl => ?_)
          refine lp_D_put (l := l) (meth := meth) hx hb hml hts hown hA a0 a1 a2 a3 a4 rc bg ss hs (k0 + 1) up ch wr k4 v f4 (by omega) (by omega) hK (fun f H locs hI hP hD hS ls hl => ?_) (k0 + 1) 0 f4 _ _ (by omega) zq_app_0 (hP.sub [1, 0] rfl) (hD.sub [1, 0] (by decide) rfl) hS ls (lv_sub hl [0, 1, 2, 3] rfl)
          refine lv_iconst (v := nI 1) hx hb d_BlockDesk_put_65 (by decide +kernel) ?_
          have hP9 := hP.sub (ws' := [(a0, .inr (0, [.ref a1, .ref a2, .int (nI rc), .int (nI bg), .ref a3, .int (nI ss), .ref a4, .int (nI (hs + (k0 + 1))), .int up, .int ch, .int wr])), (a4, .inl (k4, 8000, .inl f))]) [0, 1] rfl
          have hD9 := hD.sub (ws' := [(a0, .inr (0, [.ref a1, .ref a2, .int (nI rc), .int (nI bg), .ref a3, .int (nI ss), .ref a4, .int (nI (hs + (k0 + 1))), .int up, .int ch, .int wr])), (a4, .inl (k4, 8000, .inl f))]) [0, 1] (by decide) rfl
          have hK9 := hK.sub (tys' := [(k4, .byte)]) [0] rfl
          exact W.zret (v := nI 1) hx hb hr zq_nb1 (fun t ht hW => ⟨⟨nI 1, (hs + (k0 + 1), f), rfl, Or.inl ⟨⟨hup, by omega, by omega, by omega⟩, rfl, by rw [hkN], by rw [hkN]; exact hI⟩, by rw [ht]; exact hP9, va_K.moved hW.alike hK9, hD9⟩, hS.F ht⟩) hS.2.2 d_BlockDesk_put_66
        · exact absurd c_16 (xq_n0 (by omega) (by omega))
      · have h8 : True := trivial
        refine lv_if_ne (tgt := 21) hx hb d_BlockDesk_put_16 (by decide) (fun c_16 => ?_) (fun c_16 => ?_)
        · exact absurd rfl c_16
        · refine lv_iconst (v := nI 0) hx hb d_BlockDesk_put_19 (by decide +kernel) ?_
          have hP9 := hP.sub (ws' := [(a0, .inr (0, [.ref a1, .ref a2, .int (nI rc), .int (nI bg), .ref a3, .int (nI ss), .ref a4, .int (nI hs), .int up, .int ch, .int wr])), (a4, .inl (k4, 8000, .inl f4))]) [1, 0] rfl
          have hD9 := hD.sub (ws' := [(a0, .inr (0, [.ref a1, .ref a2, .int (nI rc), .int (nI bg), .ref a3, .int (nI ss), .ref a4, .int (nI hs), .int up, .int ch, .int wr])), (a4, .inl (k4, 8000, .inl f4))]) [1, 0] (by decide) rfl
          have hK9 := hK.sub (tys' := [(k4, .byte)]) [0] rfl
          exact W.zret (v := nI 0) hx hb hr zq_nb0 (fun t ht hW => ⟨⟨nI 0, (hs, f4), rfl, Or.inr ⟨fun h9 => by have q1 := h9.1; have q2 := h9.2.1; have q3 := h9.2.2.1; have q4 := h9.2.2.2; first | omega | exact absurd c_4 q1 | exact (by rcases hno with h | h; exact q1 h; omega), rfl, rfl⟩, by rw [ht]; exact hP9, va_K.moved hW.alike hK9, hD9⟩, hS.F ht⟩) hS.2.2 d_BlockDesk_put_20
set_option maxHeartbeats 4000000 in
set_option maxRecDepth 100000 in
theorem c_Arrays_rangeCheck (l : Launch) (dC : Nat → ClassId) (dI : Nat → Nat → Nat) (sz : Nat) (na : Nat) (fa : Nat) (ta : Nat) (h1 : fa ≤ ta) (h2 : ta ≤ na) (h3 : na ≤ 16000) : Met l y_Arrays_rangeCheck w_Arrays_rangeCheck ({ frames := 0, cells := 0, slots := 0, locals := 0 }) (va_Pc [.int (nI na), .int (nI fa), .int (nI ta)] (fun U => U.heap.size = sz ∧ va_P (dC, dI) classes [] U.heap ∧ va_K (dC, dI) classes [] U ∧ va_D (fun _ => True) [])) (va_Qv (fun (_ : Unit) => True) (fun (_ : Unit) (t : State) => va_P (dC, dI) classes [] t.heap ∧ va_K (dC, dI) classes [] t ∧ va_D (va_A [] sz) []) (va_A [] sz)) 0 0 (va_A [] sz) := by
  refine Met.ofW (cc := b_Arrays_rangeCheck) (maxL := 3) (ret := none) (by decide) rfl ?_
  intro p e s m args below meth c s₁ B hml hv
  obtain ⟨rfl, hsz, hP, hK, hD0⟩ := hv
  have hx := B.exec
  have hb := B.bytes
  have hr := B.returns
  have hts := atoms_spec (ws := w_Arrays_rangeCheck) B.pre
  have hown : s.vm.findClass R_Arrays = some m.cls := findClass_of_methodNamed B.named
  have hlocks := B.notSynchronized
  subst hsz
  have hD := hD0.self (sz := s.heap.size)
  generalize hAe : va_A [] s.heap.size = A at hD ⊢
  have hA : ∀ q : Nat, s.heap.size ≤ q → A q := fun q h => by rw [← hAe]; exact Or.inr h
  have hS : va_S A s.heap s.heap [] := va_S.rf
  have hP : va_P (dC, dI) classes [] s.heap := hP
  have hl := lv_entry ([.int (nI na), .int (nI fa), .int (nI ta)]) (n := 3) (Nat.le_of_ble_eq_true rfl)
  rw [lg_entry_eq]
  generalize (lg_sl ([.int (nI na), .int (nI fa), .int (nI ta)]) ++ List.replicate (3 - (lg_sl ([.int (nI na), .int (nI fa), .int (nI ta)])).length) Slot.unset).toArray = ls at hl ⊢
  have hl : lv_has ls 3 [(0, .int (nI na)), (1, .int (nI fa)), (2, .int (nI ta))] := hl
  refine lv_iload_n hx hb d_Arrays_rangeCheck_0 rfl (lv_at hl 1 rfl) ?_
  refine lv_iload_n hx hb d_Arrays_rangeCheck_1 rfl (lv_at hl 2 rfl) ?_
  refine lv_icmp_le (tgt := 46) hx hb d_Arrays_rangeCheck_2 (by decide) (fun c_2 => ?_) (fun c_2 => ?_)
  · have c_2 : fa ≤ ta := (nI_leI (by omega) (by omega)).mp c_2
    refine lv_iload_n hx hb d_Arrays_rangeCheck_46 rfl (lv_at hl 1 rfl) ?_
    refine lv_if_ge (tgt := 59) hx hb d_Arrays_rangeCheck_47 (by decide) (fun c_47 => ?_) (fun c_47 => ?_)
    · have c_47 : 0 ≤ ((fa : Nat) : Int) := (xq_le_0n (by omega)).mp c_47
      refine lv_iload_n hx hb d_Arrays_rangeCheck_59 rfl (lv_at hl 2 rfl) ?_
      refine lv_iload_n hx hb d_Arrays_rangeCheck_60 rfl (lv_at hl 0 rfl) ?_
      refine lv_icmp_le (tgt := 73) hx hb d_Arrays_rangeCheck_61 (by decide) (fun c_61 => ?_) (fun c_61 => ?_)
      · have c_61 : ta ≤ na := (nI_leI (by omega) (by omega)).mp c_61
        have hP9 := hP.sub (ws' := []) [] rfl
        have hD9 := hD.sub (ws' := []) [] (by decide) rfl
        have hK9 := hK.sub (tys' := []) [] rfl
        exact W.vret hx hb hr (fun t ht hW => ⟨⟨(), rfl, trivial, by rw [ht]; exact hP9, va_K.moved hW.alike hK9, hD9⟩, hS.F ht⟩) hS.2.2 d_Arrays_rangeCheck_73
      · have c_61 : ¬ (ta ≤ na) := fun h9 => c_61 ((nI_leI (by omega) (by omega)).mpr h9)
        exact absurd h2 c_61
    · have c_47 : ¬ (0 ≤ ((fa : Nat) : Int)) := fun h9 => c_47 ((xq_le_0n (by omega)).mpr h9)
      exact absurd (by omega) c_47
  · have c_2 : ¬ (fa ≤ ta) := fun h9 => c_2 ((nI_leI (by omega) (by omega)).mpr h9)
    exact absurd h1 c_2
set_option maxHeartbeats 4000000 in
set_option maxRecDepth 100000 in
theorem lp_fill {p : Program} {l : Launch} {e : Env} {s : State} {m : MethodId} {args : Array Value} {below : List Frame} {meth : Method} {c : Code} {Q : State → Prop} {A : Nat → Prop} {dC : Nat → ClassId} {dI : Nat → Nat → Nat} (hx : p.tables.exec = Jvm.exec) (hb : c.code = b_Arrays_fill) (hml : c.maxLocals = 5) (hts : ∀ w ∈ w_Arrays_fill, w.before args s = true) (hown : s.vm.findClass R_Arrays = some m.cls) (hA : ∀ q : Nat, s.heap.size ≤ q → A q) (ax : Nat) (fa : Nat) (ta : Nat) (k : Nat) (kx : ClassId) (w0 : Int32) (f4 : Nat → Int32) (hk : ta = fa + k) (hk8 : ta ≤ 8000) (hK : va_K (dC, dI) classes [(kx, .byte)] s) (KK : ∀ (f : Nat → Int32) (H : Heap) (locs : List Loc), zq_app f4 f fa k (fun _ => w0.toInt8.toInt32) → va_P (dC, dI) classes [(ax, .inl (kx, 8000, .inl f))] H → va_D A [(ax, .inl (kx, 8000, .inl f))] → va_S A s.heap H locs → ∀ ls : Array Slot, lv_has ls 5 [(4, .int (nI (fa + k))), (0, .ref ax), (1, .int (nI fa)), (2, .int (nI ta)), (3, .int w0.toInt8.toInt32)] → W p l e ({ frames := 1, cells := 0, slots := 0, locals := 22 } : Room) s m args below meth c H locs 0 0 Q (F0 m 27 ls [])) : ∀ (n d : Nat) (f : Nat → Int32) (H : Heap) (locs : List Loc), d + n = k → zq_app f4 f fa d (fun _ => w0.toInt8.toInt32) → va_P (dC, dI) classes [(ax, .inl (kx, 8000, .inl f))] H → va_D A [(ax, .inl (kx, 8000, .inl f))] → va_S A s.heap H locs → ∀ ls : Array Slot, lv_has ls 5 [(4, .int (nI (fa + d))), (0, .ref ax), (1, .int (nI fa)), (2, .int (nI ta)), (3, .int w0.toInt8.toInt32)] → W p l e ({ frames := 1, cells := 0, slots := 0, locals := 22 } : Room) s m args below meth c H locs 0 0 Q (F0 m 10 ls []) := by
  intro n
  induction n with
  | zero =>
    intro d f H locs hdn hI hP hD hS ls hl
    have hdn : k = d := by omega
    subst hdn
    have hl : lv_has ls 5 [(4, .int (nI (fa + k))), (0, .ref ax), (1, .int (nI fa)), (2, .int (nI ta)), (3, .int w0.toInt8.toInt32)] := hl
    refine lv_iload hx hb d_Arrays_fill_10 (lv_at hl 0 rfl) ?_
    refine lv_iload_n hx hb d_Arrays_fill_12 rfl (lv_at hl 3 rfl) ?_
    refine lv_icmp_ge (tgt := 27) hx hb d_Arrays_fill_13 (by decide) (fun c_13 => ?_) (fun c_13 => ?_)
    · have c_13 : ta ≤ fa + k := (nI_leI (by omega) (by omega)).mp c_13
      exact KK f _ _ hI (hP.sub [0] rfl) (hD.sub [0] (by decide) rfl) hS ls (lv_sub hl [0, 1, 2, 3, 4] rfl)
    · have c_13 : ¬ (ta ≤ fa + k) := fun h9 => c_13 ((nI_leI (by omega) (by omega)).mpr h9)
      exact absurd (by omega) c_13
  | succ n ih =>
    intro d f H locs hdn hI hP hD hS ls hl
    have hl : lv_has ls 5 [(4, .int (nI (fa + d))), (0, .ref ax), (1, .int (nI fa)), (2, .int (nI ta)), (3, .int w0.toInt8.toInt32)] := hl
    refine lv_iload hx hb d_Arrays_fill_10 (lv_at hl 0 rfl) ?_
    refine lv_iload_n hx hb d_Arrays_fill_12 rfl (lv_at hl 3 rfl) ?_
    refine lv_icmp_ge (tgt := 27) hx hb d_Arrays_fill_13 (by decide) (fun c_13 => ?_) (fun c_13 => ?_)
    · have c_13 : ta ≤ fa + d := (nI_leI (by omega) (by omega)).mp c_13
      exact absurd c_13 (by omega)
    · have c_13 : ¬ (ta ≤ fa + d) := fun h9 => c_13 ((nI_leI (by omega) (by omega)).mpr h9)
      refine lv_aload_n hx hb d_Arrays_fill_16 rfl (lv_at hl 1 rfl) ?_
      refine lv_iload hx hb d_Arrays_fill_17 (lv_at hl 0 rfl) ?_
      refine lv_iload_n hx hb d_Arrays_fill_19 rfl (lv_at hl 4 rfl) ?_
      refine va_bast hx hb hK hP hD hS 0 0 rfl rfl (vp_in_nI (by omega) (by omega)) d_Arrays_fill_20 (fun H locs hP hD hS => ?_)
      rw [pk_vb] at hP hD
      rw [nI_clamp (n := fa + d) (by omega)] at hP hD
      have hP : va_P (dC, dI) classes [(ax, .inl (kx, 8000, .inl (upd f (fa + d) w0.toInt8.toInt32)))] H := hP
      have hD : va_D A [(ax, .inl (kx, 8000, .inl (upd f (fa + d) w0.toInt8.toInt32)))] := hD
      refine lv_iinc (v := nI (fa + d + 1)) (lv' := [(4, .int (nI (fa + d + 1))), (0, .ref ax), (1, .int (nI fa)), (2, .int (nI ta)), (3, .int w0.toInt8.toInt32)]) hx hb d_Arrays_fill_21 hl (k := 0) rfl (show nI (fa + d) + nI 1 = nI (fa + d + 1) from nI_add _ _) (by decide) rfl (fun ls hl => ?_)
      refine lv_goto (tgt := 10) hx hb d_Arrays_fill_24 (by decide) ?_
      exact ih (d + 1) _ _ _ (by omega) (zq_app_s hI rfl) hP hD hS ls (lv_sub hl [0, 1, 2, 3, 4] rfl)
set_option maxHeartbeats 4000000 in
set_option maxRecDepth 100000 in
theorem c_Arrays_fill (l : Launch) (dC : Nat → ClassId) (dI : Nat → Nat → Nat) (sz : Nat) (ax : Nat) (fa : Nat) (ta : Nat) (kx : ClassId) (w0 : Int32) (f4 : Nat → Int32) (hfa : fa ≤ ta) (hta : ta ≤ 8000) : Met l y_Arrays_fill w_Arrays_fill ({ frames := 1, cells := 0, slots := 0, locals := 22 }) (va_Pc [.ref ax, .int (nI fa), .int (nI ta), .int w0.toInt8.toInt32] (fun U => U.heap.size = sz ∧ va_P (dC, dI) classes [(ax, .inl (kx, 8000, .inl f4))] U.heap ∧ va_K (dC, dI) classes [(kx, .byte)] U ∧ va_D (fun _ => True) [(ax, .inl (kx, 8000, .inl f4))])) (va_Qv (fun (u : Nat → Int32) => zq_app f4 u fa (ta - fa) (fun _ => w0.toInt8.toInt32)) (fun (u : Nat → Int32) (t : State) => match u with | f' => va_P (dC, dI) classes [(ax, .inl (kx, 8000, .inl f'))] t.heap ∧ va_K (dC, dI) classes [(kx, .byte)] t ∧ va_D (va_A [(ax, .inl (kx, 8000, .inl f4))] sz) [(ax, .inl (kx, 8000, .inl f'))]) (va_A [(ax, .inl (kx, 8000, .inl f4))] sz)) 0 0 (va_A [(ax, .inl (kx, 8000, .inl f4))] sz) := by
  refine Met.ofW (cc := b_Arrays_fill) (maxL := 5) (ret := none) (by decide) rfl ?_
  intro p e s m args below meth c s₁ B hml hv
  obtain ⟨rfl, hsz, hP, hK, hD0⟩ := hv
  have hx := B.exec
  have hb := B.bytes
  have hr := B.returns
  have hts := atoms_spec (ws := w_Arrays_fill) B.pre
  have hown : s.vm.findClass R_Arrays = some m.cls := findClass_of_methodNamed B.named
  have hlocks := B.notSynchronized
  subst hsz
  have hD := hD0.self (sz := s.heap.size)
  generalize hAe : va_A [(ax, .inl (kx, 8000, .inl f4))] s.heap.size = A at hD ⊢
  have hA : ∀ q : Nat, s.heap.size ≤ q → A q := fun q h => by rw [← hAe]; exact Or.inr h
  have hS : va_S A s.heap s.heap [] := va_S.rf
  have hP : va_P (dC, dI) classes [(ax, .inl (kx, 8000, .inl f4))] s.heap := hP
  have hl := lv_entry ([.ref ax, .int (nI fa), .int (nI ta), .int w0.toInt8.toInt32]) (n := 5) (Nat.le_of_ble_eq_true rfl)
  rw [lg_entry_eq]
  generalize (lg_sl ([.ref ax, .int (nI fa), .int (nI ta), .int w0.toInt8.toInt32]) ++ List.replicate (5 - (lg_sl ([.ref ax, .int (nI fa), .int (nI ta), .int w0.toInt8.toInt32])).length) Slot.unset).toArray = ls at hl ⊢
  have hl : lv_has ls 5 [(0, .ref ax), (1, .int (nI fa)), (2, .int (nI ta)), (3, .int w0.toInt8.toInt32)] := hl
  refine lv_aload_n hx hb d_Arrays_fill_0 rfl (lv_at hl 0 rfl) ?_
  refine va_alen (v := nI 8000) hx hb hK hP 0 0 rfl rfl rfl d_Arrays_fill_1 ?_
  refine lv_iload_n hx hb d_Arrays_fill_2 rfl (lv_at hl 1 rfl) ?_
  refine lv_iload_n hx hb d_Arrays_fill_3 rfl (lv_at hl 2 rfl) ?_
  have hPc := hP.sub (ws' := []) [] rfl
  have hDc := hD.sub (ws' := []) [] (by decide) rfl
  have hKc := hK.sub (tys' := []) [] rfl
  have hFc := va_free (wc := []) hD hS hA [] rfl
  refine va_callv (va_runS (As := [.int (nI 8000), .int (nI fa), .int (nI ta)]) (rest := []) ⟨hx, hb, hml, hown, hts⟩ (c_Arrays_rangeCheck l dC dI s.heap.size 8000 fa ta (by omega) (by omega) (by omega)) (va_cwS 3 hts g_Arrays_fill_Arrays_rangeCheck rfl rfl rfl (by decide +kernel) ⟨Nat.le_of_ble_eq_true rfl, Nat.le_of_ble_eq_true rfl⟩) ⟨fun a U g mk q => by obtain ⟨q0, q1, qP, qK, qD⟩ := q; exact ⟨q0, q1, qP, va_K.moved (u := U) (U := U.calling g mk a) (Vm.Alike.refl U.vm) qK, qD⟩, fun U hU hW => ⟨rfl, by rw [hU], by rw [hU]; exact hPc, va_K.moved hW.alike hKc, hDc.weaken (fun _ _ _ _ => trivial)⟩⟩ rfl rfl hl.1 rfl (lv_room (Nat.le_of_ble_eq_true rfl)) d_Arrays_fill_4 ⟨(Nat.zero_le _), (Nat.zero_le _)⟩) hS (fun q _ h => hFc q h) hFc (fun u t H1 locs ht hvm hw hB hz1 hk1 hS => ?_)
  obtain ⟨hP1, hK1, hD1⟩ := hB
  rw [ht] at hP1
  try dsimp only at hw
  obtain ⟨hP, hD⟩ := va_join (wr := [(ax, .inl (kx, 8000, .inl f4))]) (w1 := []) hP hD [] [0] rfl rfl (by decide) (by decide) hk1 hFc hP1 hD1
  generalize H1 = H at hP hS ⊢
  have hP : va_P (dC, dI) classes [(ax, .inl (kx, 8000, .inl f4))] H := hP
  have hD : va_D A [(ax, .inl (kx, 8000, .inl f4))] := hD
  refine lv_iload_n hx hb d_Arrays_fill_7 rfl (lv_at hl 1 rfl) ?_
  refine lv_istore (lv' := [(4, .int (nI fa)), (0, .ref ax), (1, .int (nI fa)), (2, .int (nI ta)), (3, .int w0.toInt8.toInt32)]) hx hb d_Arrays_fill_8 hl (by decide) rfl (fun ls hl => ?_)
  obtain ⟨k, rfl⟩ : ∃ k, ta = fa + k := ⟨ta - fa, by omega⟩
  refine lp_fill (l := l) (meth := meth) hx hb hml hts hown hA ax fa (fa + k) k kx w0 f4 rfl hta hK (fun f H locs hI hP hD hS ls hl => ?_) k 0 f4 _ _ (by omega) zq_app_0 (hP.sub [0] rfl) (hD.sub [0] (by decide) rfl) hS ls (lv_sub hl [0, 1, 2, 3, 4] rfl)
  have hP9 := hP.sub (ws' := [(ax, .inl (kx, 8000, .inl f))]) [0] rfl
  have hD9 := hD.sub (ws' := [(ax, .inl (kx, 8000, .inl f))]) [0] (by decide) rfl
  have hK9 := hK.sub (tys' := [(kx, .byte)]) [0] rfl
  exact W.vret hx hb hr (fun t ht hW => ⟨⟨f, rfl, (by rw [show fa + k - fa = k by omega]; exact hI), by rw [ht]; exact hP9, va_K.moved hW.alike hK9, hD9⟩, hS.F ht⟩) hS.2.2 d_Arrays_fill_27
set_option maxHeartbeats 4000000 in
set_option maxRecDepth 100000 in
theorem c_BlockDesk_fill (l : Launch) (dC : Nat → ClassId) (dI : Nat → Nat → Nat) (sz : Nat) (a0 : Nat) (a1 : Nat) (a2 : Nat) (a3 : Nat) (a4 : Nat) (rc : Nat) (bg : Nat) (ss : Nat) (hs : Nat) (up : Int32) (ch : Int32) (wr : Int32) (k4 : ClassId) (f4 : Nat → Int32) (v : Int32) (n : Int32) (hhs : hs ≤ 8000) : Met l y_BlockDesk_fill w_BlockDesk_fill ({ frames := 2, cells := 0, slots := 0, locals := 46 }) (va_Pc [.ref a0, .int v, .int n] (fun U => U.heap.size = sz ∧ va_P (dC, dI) classes [(a0, .inr (0, [.ref a1, .ref a2, .int (nI rc), .int (nI bg), .ref a3, .int (nI ss), .ref a4, .int (nI hs), .int up, .int ch, .int wr])), (a4, .inl (k4, 8000, .inl f4))] U.heap ∧ va_K (dC, dI) classes [(k4, .byte)] U ∧ va_D (fun _ => True) [(a0, .inr (0, [.ref a1, .ref a2, .int (nI rc), .int (nI bg), .ref a3, .int (nI ss), .ref a4, .int (nI hs), .int up, .int ch, .int wr])), (a4, .inl (k4, 8000, .inl f4))])) (va_Qi (fun (r : Int32) (u : Nat × (Nat → Int32)) => (zq_okP up hs 8000 n ∧ r = nI 1 ∧ u.1 = hs + n.toNatClampNeg ∧ zq_app f4 u.2 hs n.toNatClampNeg (fun _ => v.toInt8.toInt32)) ∨ (¬ zq_okP up hs 8000 n ∧ r = nI 0 ∧ u = (hs, f4))) (fun (u : Nat × (Nat → Int32)) (t : State) => match u with | (hs', f') => va_P (dC, dI) classes [(a0, .inr (0, [.ref a1, .ref a2, .int (nI rc), .int (nI bg), .ref a3, .int (nI ss), .ref a4, .int (nI hs'), .int up, .int ch, .int wr])), (a4, .inl (k4, 8000, .inl f'))] t.heap ∧ va_K (dC, dI) classes [(k4, .byte)] t ∧ va_D (va_A [(a0, .inr (0, [.ref a1, .ref a2, .int (nI rc), .int (nI bg), .ref a3, .int (nI ss), .ref a4, .int (nI hs), .int up, .int ch, .int wr])), (a4, .inl (k4, 8000, .inl f4))] sz) [(a0, .inr (0, [.ref a1, .ref a2, .int (nI rc), .int (nI bg), .ref a3, .int (nI ss), .ref a4, .int (nI hs'), .int up, .int ch, .int wr])), (a4, .inl (k4, 8000, .inl f'))]) (va_A [(a0, .inr (0, [.ref a1, .ref a2, .int (nI rc), .int (nI bg), .ref a3, .int (nI ss), .ref a4, .int (nI hs), .int up, .int ch, .int wr])), (a4, .inl (k4, 8000, .inl f4))] sz)) 0 0 (va_A [(a0, .inr (0, [.ref a1, .ref a2, .int (nI rc), .int (nI bg), .ref a3, .int (nI ss), .ref a4, .int (nI hs), .int up, .int ch, .int wr])), (a4, .inl (k4, 8000, .inl f4))] sz) := by
  refine Met.ofW (cc := b_BlockDesk_fill) (maxL := 3) (ret := (some .boolean)) (by decide) rfl ?_
  intro p e s m args below meth c s₁ B hml hv
  obtain ⟨rfl, hsz, hP, hK, hD0⟩ := hv
  have hx := B.exec
  have hb := B.bytes
  have hr := B.returns
  have hts := atoms_spec (ws := w_BlockDesk_fill) B.pre
  have hown : s.vm.findClass R_BlockDesk = some m.cls := findClass_of_methodNamed B.named
  have hlocks := B.notSynchronized
  subst hsz
  have hD := hD0.self (sz := s.heap.size)
  generalize hAe : va_A [(a0, .inr (0, [.ref a1, .ref a2, .int (nI rc), .int (nI bg), .ref a3, .int (nI ss), .ref a4, .int (nI hs), .int up, .int ch, .int wr])), (a4, .inl (k4, 8000, .inl f4))] s.heap.size = A at hD ⊢
  have hA : ∀ q : Nat, s.heap.size ≤ q → A q := fun q h => by rw [← hAe]; exact Or.inr h
  have hS : va_S A s.heap s.heap [] := va_S.rf
  have hP : va_P (dC, dI) classes [(a0, .inr (0, [.ref a1, .ref a2, .int (nI rc), .int (nI bg), .ref a3, .int (nI ss), .ref a4, .int (nI hs), .int up, .int ch, .int wr])), (a4, .inl (k4, 8000, .inl f4))] s.heap := hP
  have hin0 : ∀ w ∈ u_ws R_BlockDesk F_BlockDesk 11, w ∈ w_BlockDesk_fill := by decide +kernel
  have hl := lv_entry ([.ref a0, .int v, .int n]) (n := 3) (Nat.le_of_ble_eq_true rfl)
  rw [lg_entry_eq]
  generalize (lg_sl ([.ref a0, .int v, .int n]) ++ List.replicate (3 - (lg_sl ([.ref a0, .int v, .int n])).length) Slot.unset).toArray = ls at hl ⊢
  have hl : lv_has ls 3 [(0, .ref a0), (1, .int v), (2, .int n)] := hl
  refine lv_iload_n hx hb d_BlockDesk_fill_0 rfl (lv_at hl 2 rfl) ?_
  refine lv_iconst (v := nI 1) hx hb d_BlockDesk_fill_1 (by decide +kernel) ?_
  refine lv_icmp_lt (tgt := 20) hx hb d_BlockDesk_fill_2 (by decide) (fun c_2 => ?_) (fun c_2 => ?_)
  · have c_2 : n.toInt < ((1 : Nat) : Int) := (xq_lt_r (by omega)).mp c_2
    refine lv_iconst (v := nI 0) hx hb d_BlockDesk_fill_20 (by decide +kernel) ?_
    have hP9 := hP.sub (ws' := [(a0, .inr (0, [.ref a1, .ref a2, .int (nI rc), .int (nI bg), .ref a3, .int (nI ss), .ref a4, .int (nI hs), .int up, .int ch, .int wr])), (a4, .inl (k4, 8000, .inl f4))]) [0, 1] rfl
    have hD9 := hD.sub (ws' := [(a0, .inr (0, [.ref a1, .ref a2, .int (nI rc), .int (nI bg), .ref a3, .int (nI ss), .ref a4, .int (nI hs), .int up, .int ch, .int wr])), (a4, .inl (k4, 8000, .inl f4))]) [0, 1] (by decide) rfl
    have hK9 := hK.sub (tys' := [(k4, .byte)]) [0] rfl
    exact W.zret (v := nI 0) hx hb hr zq_nb0 (fun t ht hW => ⟨⟨nI 0, (hs, f4), rfl, Or.inr ⟨fun h9 => by have q1 := h9.1; have q2 := h9.2.1; have q3 := h9.2.2.1; have q4 := h9.2.2.2; first | omega | exact absurd c_4 q1 | exact (by rcases hno with h | h; exact q1 h; omega), rfl, rfl⟩, by rw [ht]; exact hP9, va_K.moved hW.alike hK9, hD9⟩, hS.F ht⟩) hS.2.2 d_BlockDesk_fill_21
  · have c_2 : ¬ (n.toInt < ((1 : Nat) : Int)) := fun h9 => c_2 ((xq_lt_r (by omega)).mpr h9)
    refine lv_iload_n hx hb d_BlockDesk_fill_5 rfl (lv_at hl 2 rfl) ?_
    refine lv_sipush (v := nI 8000) hx hb d_BlockDesk_fill_6 (by decide +kernel) ?_
    refine lv_icmp_gt (tgt := 20) hx hb d_BlockDesk_fill_9 (by decide) (fun c_9 => ?_) (fun c_9 => ?_)
    · have c_9 : ((8000 : Nat) : Int) < n.toInt := (xq_lt_l (by omega)).mp c_9
      refine lv_iconst (v := nI 0) hx hb d_BlockDesk_fill_20 (by decide +kernel) ?_
      have hP9 := hP.sub (ws' := [(a0, .inr (0, [.ref a1, .ref a2, .int (nI rc), .int (nI bg), .ref a3, .int (nI ss), .ref a4, .int (nI hs), .int up, .int ch, .int wr])), (a4, .inl (k4, 8000, .inl f4))]) [0, 1] rfl
      have hD9 := hD.sub (ws' := [(a0, .inr (0, [.ref a1, .ref a2, .int (nI rc), .int (nI bg), .ref a3, .int (nI ss), .ref a4, .int (nI hs), .int up, .int ch, .int wr])), (a4, .inl (k4, 8000, .inl f4))]) [0, 1] (by decide) rfl
      have hK9 := hK.sub (tys' := [(k4, .byte)]) [0] rfl
      exact W.zret (v := nI 0) hx hb hr zq_nb0 (fun t ht hW => ⟨⟨nI 0, (hs, f4), rfl, Or.inr ⟨fun h9 => by have q1 := h9.1; have q2 := h9.2.1; have q3 := h9.2.2.1; have q4 := h9.2.2.2; first | omega | exact absurd c_4 q1 | exact (by rcases hno with h | h; exact q1 h; omega), rfl, rfl⟩, by rw [ht]; exact hP9, va_K.moved hW.alike hK9, hD9⟩, hS.F ht⟩) hS.2.2 d_BlockDesk_fill_21
    · have c_9 : ¬ (((8000 : Nat) : Int) < n.toInt) := fun h9 => c_9 ((xq_lt_l (by omega)).mpr h9)
      refine lv_aload_n hx hb d_BlockDesk_fill_12 rfl (lv_at hl 0 rfl) ?_
      refine lv_iload_n hx hb d_BlockDesk_fill_13 rfl (lv_at hl 2 rfl) ?_
      have hPc := hP.sub (ws' := [(a0, .inr (0, [.ref a1, .ref a2, .int (nI rc), .int (nI bg), .ref a3, .int (nI ss), .ref a4, .int (nI hs), .int up, .int ch, .int wr]))]) [0] rfl
      have hDc := hD.sub (ws' := [(a0, .inr (0, [.ref a1, .ref a2, .int (nI rc), .int (nI bg), .ref a3, .int (nI ss), .ref a4, .int (nI hs), .int up, .int ch, .int wr]))]) [0] (by decide) rfl
      have hKc := hK.sub (tys' := []) [] rfl
      have hFc := va_free (wc := [(a0, .inr (0, [.ref a1, .ref a2, .int (nI rc), .int (nI bg), .ref a3, .int (nI ss), .ref a4, .int (nI hs), .int up, .int ch, .int wr]))]) hD hS hA [0] rfl
      refine va_calli (va_runV (As := [.int n]) (rest := []) ⟨hx, hb, hml, hown, hts⟩ (c_BlockDesk_handTakes l dC dI s.heap.size a0 a1 a2 a3 a4 rc bg ss hs up ch wr n hhs) (cwV 1 hts g_BlockDesk_fill_BlockDesk_handTakes rfl rfl rfl (by decide +kernel) ⟨Nat.le_of_ble_eq_true rfl, Nat.le_of_ble_eq_true rfl⟩) ⟨fun a U g mk q => by obtain ⟨q0, q1, qP, qK, qD⟩ := q; exact ⟨q0, q1, qP, va_K.moved (u := U) (U := U.calling g mk a) (Vm.Alike.refl U.vm) qK, qD⟩, va_recv hKc hPc (ci := 0) (q0 := 0) rfl rfl, fun U hU hW => ⟨rfl, by rw [hU], by rw [hU]; exact hPc, va_K.moved hW.alike hKc, hDc.weaken (fun _ _ _ _ => trivial)⟩⟩ rfl rfl hl.1 rfl (lv_room (Nat.le_of_ble_eq_true rfl)) d_BlockDesk_fill_14 ⟨(Nat.zero_le _), (Nat.zero_le _)⟩) hS (fun q _ h => hFc q h) hFc (fun r_14 u t H1 locs ht hvm hw hB hz1 hk1 hS => ?_)
      obtain ⟨hP1, hK1, hD1⟩ := hB
      rw [ht] at hP1
      try dsimp only at hw
      obtain ⟨hP, hD⟩ := va_join (wr := [(a4, .inl (k4, 8000, .inl f4))]) (w1 := [(a0, .inr (0, [.ref a1, .ref a2, .int (nI rc), .int (nI bg), .ref a3, .int (nI ss), .ref a4, .int (nI hs), .int up, .int ch, .int wr]))]) hP hD [0] [1] rfl rfl (by decide) (by decide) hk1 hFc hP1 hD1
      generalize H1 = H at hP hS ⊢
      have hP : va_P (dC, dI) classes [(a4, .inl (k4, 8000, .inl f4)), (a0, .inr (0, [.ref a1, .ref a2, .int (nI rc), .int (nI bg), .ref a3, .int (nI ss), .ref a4, .int (nI hs), .int up, .int ch, .int wr]))] H := hP
      have hD : va_D A [(a4, .inl (k4, 8000, .inl f4)), (a0, .inr (0, [.ref a1, .ref a2, .int (nI rc), .int (nI bg), .ref a3, .int (nI ss), .ref a4, .int (nI hs), .int up, .int ch, .int wr]))] := hD
      rcases hw with ⟨rfl, hup, hn8⟩ | ⟨rfl, hno⟩
      · have h8 : True := trivial
        refine lv_if_ne (tgt := 22) hx hb d_BlockDesk_fill_17 (by decide) (fun c_17 => ?_) (fun c_17 => ?_)
        · obtain ⟨k, -, rfl, hkI, hkN⟩ := xq_nat (x := n) (by omega)
          have hl : lv_has ls 3 [(0, .ref a0), (1, .int v), (2, .int (nI k))] := hl
          refine lv_aload_n hx hb d_BlockDesk_fill_22 rfl (lv_at hl 0 rfl) ?_
          refine va_get (D := (dC, dI)) (ci := 0) (v := .ref a4) (C := R_BlockDesk) (T := F_BlockDesk) (N := 11) hx hb hts hin0 hown hK hP 1 rfl rfl 6 (by decide) (hts (.fieldLink R_BlockDesk 20 "BlockDesk" "handBytes" "[B") (by decide +kernel)) (fun _ h9 => h9) rfl d_BlockDesk_fill_23 ?_
          refine lv_aload_n hx hb d_BlockDesk_fill_26 rfl (lv_at hl 0 rfl) ?_
          refine va_get (D := (dC, dI)) (ci := 0) (v := .int (nI hs)) (C := R_BlockDesk) (T := F_BlockDesk) (N := 11) hx hb hts hin0 hown hK hP 1 rfl rfl 7 (by decide) (hts (.fieldLink R_BlockDesk 35 "BlockDesk" "handSize" "I") (by decide +kernel)) (fun _ h9 => h9) rfl d_BlockDesk_fill_27 ?_
          refine lv_aload_n hx hb d_BlockDesk_fill_30 rfl (lv_at hl 0 rfl) ?_
          refine va_get (D := (dC, dI)) (ci := 0) (v := .int (nI hs)) (C := R_BlockDesk) (T := F_BlockDesk) (N := 11) hx hb hts hin0 hown hK hP 1 rfl rfl 7 (by decide) (hts (.fieldLink R_BlockDesk 35 "BlockDesk" "handSize" "I") (by decide +kernel)) (fun _ h9 => h9) rfl d_BlockDesk_fill_31 ?_
          refine lv_iload_n hx hb d_BlockDesk_fill_34 rfl (lv_at hl 2 rfl) ?_
          refine lv_iadd hx hb d_BlockDesk_fill_35 ?_
          refine xq_top (nI (hs + k)) (nI_add _ _) ?_
          refine lv_iload_n hx hb d_BlockDesk_fill_36 rfl (lv_at hl 1 rfl) ?_
          refine lv_i2b (v := v.toInt8.toInt32) hx hb d_BlockDesk_fill_37 rfl ?_
          have hPc := hP.sub (ws' := [(a4, .inl (k4, 8000, .inl f4))]) [0] rfl
          have hDc := hD.sub (ws' := [(a4, .inl (k4, 8000, .inl f4))]) [0] (by decide) rfl
          have hKc := hK.sub (tys' := [(k4, .byte)]) [0] rfl
          have hFc := va_free (wc := [(a4, .inl (k4, 8000, .inl f4))]) hD hS hA [0] rfl
          refine va_callv (va_runS (As := [.ref a4, .int (nI hs), .int (nI (hs + k)), .int v.toInt8.toInt32]) (rest := []) ⟨hx, hb, hml, hown, hts⟩ (c_Arrays_fill l dC dI H.size a4 hs (hs + k) k4 v f4 (by omega) (by omega)) (va_cwS 4 hts g_BlockDesk_fill_Arrays_fill rfl rfl rfl (by decide +kernel) ⟨Nat.le_of_ble_eq_true rfl, Nat.le_of_ble_eq_true rfl⟩) ⟨fun a U g mk q => by obtain ⟨q0, q1, qP, qK, qD⟩ := q; exact ⟨q0, q1, qP, va_K.moved (u := U) (U := U.calling g mk a) (Vm.Alike.refl U.vm) qK, qD⟩, fun U hU hW => ⟨rfl, by rw [hU], by rw [hU]; exact hPc, va_K.moved hW.alike hKc, hDc.weaken (fun _ _ _ _ => trivial)⟩⟩ rfl rfl hl.1 rfl (lv_room (Nat.le_of_ble_eq_true rfl)) d_BlockDesk_fill_38 ⟨(Nat.zero_le _), (Nat.zero_le _)⟩) hS (fun q _ h => hFc q h) hFc (fun u t H1 locs ht hvm hw hB hz1 hk1 hS => ?_)
          obtain ⟨f', rfl⟩ : ∃ z, z = u := ⟨_, rfl⟩
          obtain ⟨hP1, hK1, hD1⟩ := hB
          rw [ht] at hP1
          try dsimp only at hw
          obtain ⟨hP, hD⟩ := va_join (wr := [(a0, .inr (0, [.ref a1, .ref a2, .int (nI rc), .int (nI bg), .ref a3, .int (nI ss), .ref a4, .int (nI hs), .int up, .int ch, .int wr]))]) (w1 := [(a4, .inl (k4, 8000, .inl f'))]) hP hD [0] [1] rfl rfl (by decide) (by decide) hk1 hFc hP1 hD1
          generalize H1 = H at hP hS ⊢
          have hP : va_P (dC, dI) classes [(a0, .inr (0, [.ref a1, .ref a2, .int (nI rc), .int (nI bg), .ref a3, .int (nI ss), .ref a4, .int (nI hs), .int up, .int ch, .int wr])), (a4, .inl (k4, 8000, .inl f'))] H := hP
          have hD : va_D A [(a0, .inr (0, [.ref a1, .ref a2, .int (nI rc), .int (nI bg), .ref a3, .int (nI ss), .ref a4, .int (nI hs), .int up, .int ch, .int wr])), (a4, .inl (k4, 8000, .inl f'))] := hD
          rw [show hs + k - hs = k by omega] at hw
          refine lv_aload_n hx hb d_BlockDesk_fill_41 rfl (lv_at hl 0 rfl) ?_
          refine lv_dup hx hb d_BlockDesk_fill_42 rfl ?_
          refine va_get (D := (dC, dI)) (ci := 0) (v := .int (nI hs)) (C := R_BlockDesk) (T := F_BlockDesk) (N := 11) hx hb hts hin0 hown hK hP 0 rfl rfl 7 (by decide) (hts (.fieldLink R_BlockDesk 35 "BlockDesk" "handSize" "I") (by decide +kernel)) (fun _ h9 => h9) rfl d_BlockDesk_fill_43 ?_
          refine lv_iload_n hx hb d_BlockDesk_fill_46 rfl (lv_at hl 2 rfl) ?_
          refine lv_iadd hx hb d_BlockDesk_fill_47 ?_
          refine xq_top (nI (hs + k)) (nI_add _ _) ?_
          refine va_put (D := (dC, dI)) (ci := 0) (v := .int (nI (hs + k))) (ty := .int) (C := R_BlockDesk) (T := F_BlockDesk) (N := 11) hx hb hts hin0 t_BlockDesk t_BlockDesk_ok n_BlockDesk hown hK hP hD hS 0 rfl rfl 7 (by decide) (hts (.fieldLink R_BlockDesk 35 "BlockDesk" "handSize" "I") (by decide +kernel)) (fun _ h9 => h9) rfl (by decide +kernel) rfl rfl (Nat.le_of_ble_eq_true rfl) d_BlockDesk_fill_48 (fun H locs hP hD hS => ?_)
          have hP : va_P (dC, dI) classes [(a0, .inr (0, [.ref a1, .ref a2, .int (nI rc), .int (nI bg), .ref a3, .int (nI ss), .ref a4, .int (nI (hs + k)), .int up, .int ch, .int wr])), (a4, .inl (k4, 8000, .inl f'))] H := hP
          have hD : va_D A [(a0, .inr (0, [.ref a1, .ref a2, .int (nI rc), .int (nI bg), .ref a3, .int (nI ss), .ref a4, .int (nI (hs + k)), .int up, .int ch, .int wr])), (a4, .inl (k4, 8000, .inl f'))] := hD
          refine lv_iconst (v := nI 1) hx hb d_BlockDesk_fill_51 (by decide +kernel) ?_
          have hP9 := hP.sub (ws' := [(a0, .inr (0, [.ref a1, .ref a2, .int (nI rc), .int (nI bg), .ref a3, .int (nI ss), .ref a4, .int (nI (hs + k)), .int up, .int ch, .int wr])), (a4, .inl (k4, 8000, .inl f'))]) [0, 1] rfl
          have hD9 := hD.sub (ws' := [(a0, .inr (0, [.ref a1, .ref a2, .int (nI rc), .int (nI bg), .ref a3, .int (nI ss), .ref a4, .int (nI (hs + k)), .int up, .int ch, .int wr])), (a4, .inl (k4, 8000, .inl f'))]) [0, 1] (by decide) rfl
          have hK9 := hK.sub (tys' := [(k4, .byte)]) [0] rfl
          exact W.zret (v := nI 1) hx hb hr zq_nb1 (fun t ht hW => ⟨⟨nI 1, (hs + k, f'), rfl, Or.inl ⟨⟨hup, by omega, by omega, by omega⟩, rfl, by rw [hkN], by rw [hkN]; exact hw⟩, by rw [ht]; exact hP9, va_K.moved hW.alike hK9, hD9⟩, hS.F ht⟩) hS.2.2 d_BlockDesk_fill_52
        · exact absurd c_17 (xq_n0 (by omega) (by omega))
      · have h8 : True := trivial
        refine lv_if_ne (tgt := 22) hx hb d_BlockDesk_fill_17 (by decide) (fun c_17 => ?_) (fun c_17 => ?_)
        · exact absurd rfl c_17
        · refine lv_iconst (v := nI 0) hx hb d_BlockDesk_fill_20 (by decide +kernel) ?_
          have hP9 := hP.sub (ws' := [(a0, .inr (0, [.ref a1, .ref a2, .int (nI rc), .int (nI bg), .ref a3, .int (nI ss), .ref a4, .int (nI hs), .int up, .int ch, .int wr])), (a4, .inl (k4, 8000, .inl f4))]) [1, 0] rfl
          have hD9 := hD.sub (ws' := [(a0, .inr (0, [.ref a1, .ref a2, .int (nI rc), .int (nI bg), .ref a3, .int (nI ss), .ref a4, .int (nI hs), .int up, .int ch, .int wr])), (a4, .inl (k4, 8000, .inl f4))]) [1, 0] (by decide) rfl
          have hK9 := hK.sub (tys' := [(k4, .byte)]) [0] rfl
          exact W.zret (v := nI 0) hx hb hr zq_nb0 (fun t ht hW => ⟨⟨nI 0, (hs, f4), rfl, Or.inr ⟨fun h9 => by have q1 := h9.1; have q2 := h9.2.1; have q3 := h9.2.2.1; have q4 := h9.2.2.2; first | omega | exact absurd c_4 q1 | exact (by rcases hno with h | h; exact q1 h; omega), rfl, rfl⟩, by rw [ht]; exact hP9, va_K.moved hW.alike hK9, hD9⟩, hS.F ht⟩) hS.2.2 d_BlockDesk_fill_21
