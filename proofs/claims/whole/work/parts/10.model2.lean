set_option maxHeartbeats 4000000 in
set_option maxRecDepth 100000 in
theorem lp_M_put {p : Program} {l : Launch} {e : Env} {s : State} {m : MethodId} {args : Array Value} {below : List Frame} {meth : Method} {c : Code} {Q : State → Prop} {A : Nat → Prop} {dC : Nat → ClassId} {dI : Nat → Nat → Nat} (hx : p.tables.exec = Jvm.exec) (hb : c.code = b_BlockDeskModel_put) (hml : c.maxLocals = 5) (hts : ∀ w ∈ w_BlockDeskModel_put, w.before args s = true) (hown : s.vm.findClass R_BlockDeskModel = some m.cls) (hA : ∀ q : Nat, s.heap.size ≤ q → A q) (b0 : Nat) (b1 : Nat) (b2 : Nat) (b3 : Nat) (b4 : Nat) (N : Nat) (rc : Nat) (bg : Nat) (en : Nat) (ss : Nat) (hs : Nat) (k : Nat) (up : Int32) (ch : Int32) (wr : Int32) (o1 : ClassId) (v : Int64) (g1 : Nat → Int32) (hk : hs + k ≤ 8000) (hk8 : k ≤ 8) (hK : va_K (dC, dI) classes [(o1, .int)] s) (KK : ∀ (f : Nat → Int32) (H : Heap) (locs : List Loc), zq_app g1 f hs k (fun z => zq_pbv v (k - 1 - z) &&& nI 255) → va_P (dC, dI) classes [(b0, .inr (1, [.int (nI N), .int up, .int ch, .int wr, .int (nI bg), .int (nI en), .ref b1, .int (nI (hs + k)), .ref b2, .int (nI ss), .ref b3, .ref b4, .int (nI rc)])), (b1, .inl (o1, 8000, .inl f))] H → va_D A [(b0, .inr (1, [.int (nI N), .int up, .int ch, .int wr, .int (nI bg), .int (nI en), .ref b1, .int (nI (hs + k)), .ref b2, .int (nI ss), .ref b3, .ref b4, .int (nI rc)])), (b1, .inl (o1, 8000, .inl f))] → va_S A s.heap H locs → ∀ ls : Array Slot, lv_has ls 5 [(4, .int (-1)), (0, .ref b0), (1, .long v), (3, .int (nI k))] → W p l e ({ frames := 1, cells := 0, slots := 0, locals := 22 } : Room) s m args below meth c H locs 0 0 Q (F0 m 61 ls [])) : ∀ (n d : Nat) (f : Nat → Int32) (H : Heap) (locs : List Loc), d + n = k → zq_app g1 f hs d (fun z => zq_pbv v (k - 1 - z) &&& nI 255) → va_P (dC, dI) classes [(b0, .inr (1, [.int (nI N), .int up, .int ch, .int wr, .int (nI bg), .int (nI en), .ref b1, .int (nI (hs + d)), .ref b2, .int (nI ss), .ref b3, .ref b4, .int (nI rc)])), (b1, .inl (o1, 8000, .inl f))] H → va_D A [(b0, .inr (1, [.int (nI N), .int up, .int ch, .int wr, .int (nI bg), .int (nI en), .ref b1, .int (nI (hs + d)), .ref b2, .int (nI ss), .ref b3, .ref b4, .int (nI rc)])), (b1, .inl (o1, 8000, .inl f))] → va_S A s.heap H locs → ∀ ls : Array Slot, lv_has ls 5 [(4, .int (zq_pd n)), (0, .ref b0), (1, .long v), (3, .int (nI k))] → W p l e ({ frames := 1, cells := 0, slots := 0, locals := 22 } : Room) s m args below meth c H locs 0 0 Q (F0 m 37 ls []) := by
  have hin1 : ∀ w ∈ u_ws R_BlockDeskModel F_BlockDeskModel 13, w ∈ w_BlockDeskModel_put := by decide +kernel
  intro n
  induction n with
  | zero =>
    intro d f H locs hdn hI hP hD hS ls hl
    have hdn : k = d := by omega
    subst hdn
    have hl : lv_has ls 5 [(4, .int (-1)), (0, .ref b0), (1, .long v), (3, .int (nI k))] := hl
    refine lv_iload hx hb d_BlockDeskModel_put_37 (lv_at hl 0 rfl) ?_
    refine lv_if_lt (tgt := 61) hx hb d_BlockDeskModel_put_39 (by decide) (fun c_39 => ?_) (fun c_39 => ?_)
    · exact KK f _ _ hI (hP.sub [0, 1] rfl) (hD.sub [0, 1] (by decide) rfl) hS ls (lv_sub hl [0, 1, 2, 3] rfl)
    · exact absurd (by decide +kernel) c_39
  | succ n ih =>
    intro d f H locs hdn hI hP hD hS ls hl
    have hl : lv_has ls 5 [(4, .int (nI n)), (0, .ref b0), (1, .long v), (3, .int (nI k))] := hl
    refine lv_iload hx hb d_BlockDeskModel_put_37 (lv_at hl 0 rfl) ?_
    refine lv_if_lt (tgt := 61) hx hb d_BlockDeskModel_put_39 (by decide) (fun c_39 => ?_) (fun c_39 => ?_)
    · have c_39 : ((n : Nat) : Int) < 0 := (xq_lt_n0 (by omega)).mp c_39
      exact absurd c_39 (by omega)
    · have c_39 : ¬ (((n : Nat) : Int) < 0) := fun h9 => c_39 ((xq_lt_n0 (by omega)).mpr h9)
      refine lv_aload_n hx hb d_BlockDeskModel_put_42 rfl (lv_at hl 1 rfl) ?_
      refine lv_lload_n hx hb d_BlockDeskModel_put_43 rfl (lv_at hl 2 rfl) ?_
      refine lv_bipush (v := nI 8) hx hb d_BlockDeskModel_put_44 (by decide +kernel) ?_
      refine lv_iload hx hb d_BlockDeskModel_put_46 (lv_at hl 0 rfl) ?_
      refine lv_imul hx hb d_BlockDeskModel_put_48 ?_
      refine xq_top (nI (8 * n)) (pk_mul _ _) ?_
      refine lv_lshr (v := v >>> ((nI (8 * n)).toInt64 &&& 63)) hx hb d_BlockDeskModel_put_49 rfl ?_
      refine lv_l2i (v := (v >>> ((nI (8 * n)).toInt64 &&& 63)).toInt32) hx hb d_BlockDeskModel_put_50 rfl ?_
      have hPc := hP.sub (ws' := [(b0, .inr (1, [.int (nI N), .int up, .int ch, .int wr, .int (nI bg), .int (nI en), .ref b1, .int (nI (hs + d)), .ref b2, .int (nI ss), .ref b3, .ref b4, .int (nI rc)])), (b1, .inl (o1, 8000, .inl f))]) [0, 1] rfl
      have hDc := hD.sub (ws' := [(b0, .inr (1, [.int (nI N), .int up, .int ch, .int wr, .int (nI bg), .int (nI en), .ref b1, .int (nI (hs + d)), .ref b2, .int (nI ss), .ref b3, .ref b4, .int (nI rc)])), (b1, .inl (o1, 8000, .inl f))]) [0, 1] (by decide) rfl
      have hKc := hK.sub (tys' := [(o1, .int)]) [0] rfl
      have hFc := va_free (wc := [(b0, .inr (1, [.int (nI N), .int up, .int ch, .int wr, .int (nI bg), .int (nI en), .ref b1, .int (nI (hs + d)), .ref b2, .int (nI ss), .ref b3, .ref b4, .int (nI rc)])), (b1, .inl (o1, 8000, .inl f))]) hD hS hA [0, 1] rfl
      refine va_calli (va_runV (As := [.int ((v >>> ((nI (8 * n)).toInt64 &&& 63)).toInt32)]) (rest := []) ⟨hx, hb, hml, hown, hts⟩ (c_BlockDeskModel_hold l dC dI H.size b0 b1 b2 b3 b4 N rc bg en ss (hs + d) up ch wr o1 f ((v >>> ((nI (8 * n)).toInt64 &&& 63)).toInt32) (by omega)) (cwV 1 hts g_BlockDeskModel_put_BlockDeskModel_hold rfl rfl rfl (by decide +kernel) ⟨Nat.le_of_ble_eq_true rfl, Nat.le_of_ble_eq_true rfl⟩) ⟨fun a U g mk q => by obtain ⟨q0, q1, qP, qK, qD⟩ := q; exact ⟨q0, q1, qP, va_K.moved (u := U) (U := U.calling g mk a) (Vm.Alike.refl U.vm) qK, qD⟩, va_recv hKc hPc (ci := 1) (q0 := 0) rfl rfl, fun U hU hW => ⟨rfl, by rw [hU], by rw [hU]; exact hPc, va_K.moved hW.alike hKc, hDc.weaken (fun _ _ _ _ => trivial)⟩⟩ rfl rfl hl.1 rfl (lv_room (Nat.le_of_ble_eq_true rfl)) d_BlockDeskModel_put_51 ⟨(Nat.zero_le _), (Nat.zero_le _)⟩) hS (fun q _ h => hFc q h) hFc (fun r_h u t H1 locs ht hvm hw hB hz1 hk1 hS => ?_)
      obtain ⟨hP1, hK1, hD1⟩ := hB
      rw [ht] at hP1
      try dsimp only at hw
      obtain ⟨hP, hD⟩ := va_join (wr := []) (w1 := [(b0, .inr (1, [.int (nI N), .int up, .int ch, .int wr, .int (nI bg), .int (nI en), .ref b1, .int (nI ((hs + d) + 1)), .ref b2, .int (nI ss), .ref b3, .ref b4, .int (nI rc)])), (b1, .inl (o1, 8000, .inl (upd f (hs + d) (((v >>> ((nI (8 * n)).toInt64 &&& 63)).toInt32) &&& nI 255))))]) hP hD [0, 1] [] rfl rfl (by decide) (by decide) hk1 hFc hP1 hD1
      generalize H1 = H at hP hS ⊢
      have hP : va_P (dC, dI) classes [(b0, .inr (1, [.int (nI N), .int up, .int ch, .int wr, .int (nI bg), .int (nI en), .ref b1, .int (nI ((hs + d) + 1)), .ref b2, .int (nI ss), .ref b3, .ref b4, .int (nI rc)])), (b1, .inl (o1, 8000, .inl (upd f (hs + d) (((v >>> ((nI (8 * n)).toInt64 &&& 63)).toInt32) &&& nI 255))))] H := hP
      have hD : va_D A [(b0, .inr (1, [.int (nI N), .int up, .int ch, .int wr, .int (nI bg), .int (nI en), .ref b1, .int (nI ((hs + d) + 1)), .ref b2, .int (nI ss), .ref b3, .ref b4, .int (nI rc)])), (b1, .inl (o1, 8000, .inl (upd f (hs + d) (((v >>> ((nI (8 * n)).toInt64 &&& 63)).toInt32) &&& nI 255))))] := hD
      refine lv_pop hx hb d_BlockDeskModel_put_54 rfl ?_
      refine lv_iinc (v := zq_pd n) (lv' := [(4, .int (zq_pd n)), (0, .ref b0), (1, .long v), (3, .int (nI k))]) hx hb d_BlockDeskModel_put_55 hl (k := 0) rfl (xq_pd n) (by decide) rfl (fun ls hl => ?_)
      refine lv_goto (tgt := 37) hx hb d_BlockDeskModel_put_58 (by decide) ?_
      exact ih (d + 1) _ _ _ (by omega) (zq_app_s hI (by show _ = zq_pbv v (k - 1 - d) &&& nI 255; rw [show k - 1 - d = n by omega]; rfl)) (hP.sub [0, 1] rfl) (hD.sub [0, 1] (by decide) rfl) hS ls (lv_sub hl [0, 1, 2, 3] rfl)
set_option maxHeartbeats 4000000 in
set_option maxRecDepth 100000 in
theorem c_BlockDeskModel_put (l : Launch) (dC : Nat → ClassId) (dI : Nat → Nat → Nat) (sz : Nat) (b0 : Nat) (b1 : Nat) (b2 : Nat) (b3 : Nat) (b4 : Nat) (N : Nat) (rc : Nat) (bg : Nat) (en : Nat) (ss : Nat) (hs : Nat) (up : Int32) (ch : Int32) (wr : Int32) (o1 : ClassId) (g1 : Nat → Int32) (v : Int64) (n : Int32) (hhs : hs ≤ 8000) : Met l y_BlockDeskModel_put w_BlockDeskModel_put ({ frames := 1, cells := 0, slots := 0, locals := 22 }) (va_Pc [.ref b0, .long v, .int n] (fun U => U.heap.size = sz ∧ va_P (dC, dI) classes [(b0, .inr (1, [.int (nI N), .int up, .int ch, .int wr, .int (nI bg), .int (nI en), .ref b1, .int (nI hs), .ref b2, .int (nI ss), .ref b3, .ref b4, .int (nI rc)])), (b1, .inl (o1, 8000, .inl g1))] U.heap ∧ va_K (dC, dI) classes [(o1, .int)] U ∧ va_D (fun _ => True) [(b0, .inr (1, [.int (nI N), .int up, .int ch, .int wr, .int (nI bg), .int (nI en), .ref b1, .int (nI hs), .ref b2, .int (nI ss), .ref b3, .ref b4, .int (nI rc)])), (b1, .inl (o1, 8000, .inl g1))])) (va_Qi (fun (r : Int32) (u : Nat × (Nat → Int32)) => (zq_okP up hs 8 n ∧ r = nI 1 ∧ u.1 = hs + n.toNatClampNeg ∧ zq_app g1 u.2 hs n.toNatClampNeg (fun z => zq_pbv v (n.toNatClampNeg - 1 - z) &&& nI 255)) ∨ (¬ zq_okP up hs 8 n ∧ r = nI 0 ∧ u = (hs, g1))) (fun (u : Nat × (Nat → Int32)) (t : State) => match u with | (hs', f') => va_P (dC, dI) classes [(b0, .inr (1, [.int (nI N), .int up, .int ch, .int wr, .int (nI bg), .int (nI en), .ref b1, .int (nI hs'), .ref b2, .int (nI ss), .ref b3, .ref b4, .int (nI rc)])), (b1, .inl (o1, 8000, .inl f'))] t.heap ∧ va_K (dC, dI) classes [(o1, .int)] t ∧ va_D (va_A [(b0, .inr (1, [.int (nI N), .int up, .int ch, .int wr, .int (nI bg), .int (nI en), .ref b1, .int (nI hs), .ref b2, .int (nI ss), .ref b3, .ref b4, .int (nI rc)])), (b1, .inl (o1, 8000, .inl g1))] sz) [(b0, .inr (1, [.int (nI N), .int up, .int ch, .int wr, .int (nI bg), .int (nI en), .ref b1, .int (nI hs'), .ref b2, .int (nI ss), .ref b3, .ref b4, .int (nI rc)])), (b1, .inl (o1, 8000, .inl f'))]) (va_A [(b0, .inr (1, [.int (nI N), .int up, .int ch, .int wr, .int (nI bg), .int (nI en), .ref b1, .int (nI hs), .ref b2, .int (nI ss), .ref b3, .ref b4, .int (nI rc)])), (b1, .inl (o1, 8000, .inl g1))] sz)) 0 0 (va_A [(b0, .inr (1, [.int (nI N), .int up, .int ch, .int wr, .int (nI bg), .int (nI en), .ref b1, .int (nI hs), .ref b2, .int (nI ss), .ref b3, .ref b4, .int (nI rc)])), (b1, .inl (o1, 8000, .inl g1))] sz) := by
  refine Met.ofW (cc := b_BlockDeskModel_put) (maxL := 5) (ret := (some .boolean)) (by decide) rfl ?_
  intro p e s m args below meth c s₁ B hml hv
  obtain ⟨rfl, hsz, hP, hK, hD0⟩ := hv
  have hx := B.exec
  have hb := B.bytes
  have hr := B.returns
  have hts := atoms_spec (ws := w_BlockDeskModel_put) B.pre
  have hown : s.vm.findClass R_BlockDeskModel = some m.cls := findClass_of_methodNamed B.named
  have hlocks := B.notSynchronized
  subst hsz
  have hD := hD0.self (sz := s.heap.size)
  generalize hAe : va_A [(b0, .inr (1, [.int (nI N), .int up, .int ch, .int wr, .int (nI bg), .int (nI en), .ref b1, .int (nI hs), .ref b2, .int (nI ss), .ref b3, .ref b4, .int (nI rc)])), (b1, .inl (o1, 8000, .inl g1))] s.heap.size = A at hD ⊢
  have hA : ∀ q : Nat, s.heap.size ≤ q → A q := fun q h => by rw [← hAe]; exact Or.inr h
  have hS : va_S A s.heap s.heap [] := va_S.rf
  have hP : va_P (dC, dI) classes [(b0, .inr (1, [.int (nI N), .int up, .int ch, .int wr, .int (nI bg), .int (nI en), .ref b1, .int (nI hs), .ref b2, .int (nI ss), .ref b3, .ref b4, .int (nI rc)])), (b1, .inl (o1, 8000, .inl g1))] s.heap := hP
  have hin1 : ∀ w ∈ u_ws R_BlockDeskModel F_BlockDeskModel 13, w ∈ w_BlockDeskModel_put := by decide +kernel
  have hl := lv_entry ([.ref b0, .long v, .int n]) (n := 5) (Nat.le_of_ble_eq_true rfl)
  rw [lg_entry_eq]
  generalize (lg_sl ([.ref b0, .long v, .int n]) ++ List.replicate (5 - (lg_sl ([.ref b0, .long v, .int n])).length) Slot.unset).toArray = ls at hl ⊢
  have hl : lv_has ls 5 [(0, .ref b0), (1, .long v), (3, .int n)] := hl
  refine lv_aload_n hx hb d_BlockDeskModel_put_0 rfl (lv_at hl 0 rfl) ?_
  refine va_get (D := (dC, dI)) (ci := 1) (v := .int up) (C := R_BlockDeskModel) (T := F_BlockDeskModel) (N := 13) hx hb hts hin1 hown hK hP 0 rfl rfl 1 (by decide) (hts (.fieldLink R_BlockDeskModel 7 "BlockDeskModel" "up" "Z") (by decide +kernel)) (fun _ h9 => h9) rfl d_BlockDeskModel_put_1 ?_
  refine lv_if_eq (tgt := 30) hx hb d_BlockDeskModel_put_4 (by decide) (fun c_4 => ?_) (fun c_4 => ?_)
  · refine lv_iconst (v := nI 0) hx hb d_BlockDeskModel_put_30 (by decide +kernel) ?_
    have hP9 := hP.sub (ws' := [(b0, .inr (1, [.int (nI N), .int up, .int ch, .int wr, .int (nI bg), .int (nI en), .ref b1, .int (nI hs), .ref b2, .int (nI ss), .ref b3, .ref b4, .int (nI rc)])), (b1, .inl (o1, 8000, .inl g1))]) [0, 1] rfl
    have hD9 := hD.sub (ws' := [(b0, .inr (1, [.int (nI N), .int up, .int ch, .int wr, .int (nI bg), .int (nI en), .ref b1, .int (nI hs), .ref b2, .int (nI ss), .ref b3, .ref b4, .int (nI rc)])), (b1, .inl (o1, 8000, .inl g1))]) [0, 1] (by decide) rfl
    have hK9 := hK.sub (tys' := [(o1, .int)]) [0] rfl
    exact W.zret (v := nI 0) hx hb hr zq_nb0 (fun t ht hW => ⟨⟨nI 0, (hs, g1), rfl, Or.inr ⟨fun h9 => by have q1 := h9.1; have q2 := h9.2.1; have q3 := h9.2.2.1; have q4 := h9.2.2.2; first | omega | exact absurd c_4 q1, rfl, rfl⟩, by rw [ht]; exact hP9, va_K.moved hW.alike hK9, hD9⟩, hS.F ht⟩) hS.2.2 d_BlockDeskModel_put_31
  · refine lv_iload_n hx hb d_BlockDeskModel_put_7 rfl (lv_at hl 2 rfl) ?_
    refine lv_iconst (v := nI 1) hx hb d_BlockDeskModel_put_8 (by decide +kernel) ?_
    refine lv_icmp_lt (tgt := 30) hx hb d_BlockDeskModel_put_9 (by decide) (fun c_9 => ?_) (fun c_9 => ?_)
    · have c_9 : n.toInt < ((1 : Nat) : Int) := (xq_lt_r (by omega)).mp c_9
      refine lv_iconst (v := nI 0) hx hb d_BlockDeskModel_put_30 (by decide +kernel) ?_
      have hP9 := hP.sub (ws' := [(b0, .inr (1, [.int (nI N), .int up, .int ch, .int wr, .int (nI bg), .int (nI en), .ref b1, .int (nI hs), .ref b2, .int (nI ss), .ref b3, .ref b4, .int (nI rc)])), (b1, .inl (o1, 8000, .inl g1))]) [0, 1] rfl
      have hD9 := hD.sub (ws' := [(b0, .inr (1, [.int (nI N), .int up, .int ch, .int wr, .int (nI bg), .int (nI en), .ref b1, .int (nI hs), .ref b2, .int (nI ss), .ref b3, .ref b4, .int (nI rc)])), (b1, .inl (o1, 8000, .inl g1))]) [0, 1] (by decide) rfl
      have hK9 := hK.sub (tys' := [(o1, .int)]) [0] rfl
      exact W.zret (v := nI 0) hx hb hr zq_nb0 (fun t ht hW => ⟨⟨nI 0, (hs, g1), rfl, Or.inr ⟨fun h9 => by have q1 := h9.1; have q2 := h9.2.1; have q3 := h9.2.2.1; have q4 := h9.2.2.2; first | omega | exact absurd c_4 q1, rfl, rfl⟩, by rw [ht]; exact hP9, va_K.moved hW.alike hK9, hD9⟩, hS.F ht⟩) hS.2.2 d_BlockDeskModel_put_31
    · have c_9 : ¬ (n.toInt < ((1 : Nat) : Int)) := fun h9 => c_9 ((xq_lt_r (by omega)).mpr h9)
      refine lv_iload_n hx hb d_BlockDeskModel_put_12 rfl (lv_at hl 2 rfl) ?_
      refine lv_bipush (v := nI 8) hx hb d_BlockDeskModel_put_13 (by decide +kernel) ?_
      refine lv_icmp_gt (tgt := 30) hx hb d_BlockDeskModel_put_15 (by decide) (fun c_15 => ?_) (fun c_15 => ?_)
      · have c_15 : ((8 : Nat) : Int) < n.toInt := (xq_lt_l (by omega)).mp c_15
        refine lv_iconst (v := nI 0) hx hb d_BlockDeskModel_put_30 (by decide +kernel) ?_
        have hP9 := hP.sub (ws' := [(b0, .inr (1, [.int (nI N), .int up, .int ch, .int wr, .int (nI bg), .int (nI en), .ref b1, .int (nI hs), .ref b2, .int (nI ss), .ref b3, .ref b4, .int (nI rc)])), (b1, .inl (o1, 8000, .inl g1))]) [0, 1] rfl
        have hD9 := hD.sub (ws' := [(b0, .inr (1, [.int (nI N), .int up, .int ch, .int wr, .int (nI bg), .int (nI en), .ref b1, .int (nI hs), .ref b2, .int (nI ss), .ref b3, .ref b4, .int (nI rc)])), (b1, .inl (o1, 8000, .inl g1))]) [0, 1] (by decide) rfl
        have hK9 := hK.sub (tys' := [(o1, .int)]) [0] rfl
        exact W.zret (v := nI 0) hx hb hr zq_nb0 (fun t ht hW => ⟨⟨nI 0, (hs, g1), rfl, Or.inr ⟨fun h9 => by have q1 := h9.1; have q2 := h9.2.1; have q3 := h9.2.2.1; have q4 := h9.2.2.2; first | omega | exact absurd c_4 q1, rfl, rfl⟩, by rw [ht]; exact hP9, va_K.moved hW.alike hK9, hD9⟩, hS.F ht⟩) hS.2.2 d_BlockDeskModel_put_31
      · have c_15 : ¬ (((8 : Nat) : Int) < n.toInt) := fun h9 => c_15 ((xq_lt_l (by omega)).mpr h9)
        obtain ⟨k, -, rfl, hkI, hkN⟩ := xq_nat (x := n) (by omega)
        have hl : lv_has ls 5 [(0, .ref b0), (1, .long v), (3, .int (nI k))] := hl
        refine lv_aload_n hx hb d_BlockDeskModel_put_18 rfl (lv_at hl 0 rfl) ?_
        refine va_get (D := (dC, dI)) (ci := 1) (v := .int (nI hs)) (C := R_BlockDeskModel) (T := F_BlockDeskModel) (N := 13) hx hb hts hin1 hown hK hP 0 rfl rfl 7 (by decide) (hts (.fieldLink R_BlockDeskModel 33 "BlockDeskModel" "inHand" "I") (by decide +kernel)) (fun _ h9 => h9) rfl d_BlockDeskModel_put_19 ?_
        refine lv_iload_n hx hb d_BlockDeskModel_put_22 rfl (lv_at hl 2 rfl) ?_
        refine lv_iadd hx hb d_BlockDeskModel_put_23 ?_
        refine xq_top (nI (hs + k)) (nI_add _ _) ?_
        refine lv_sipush (v := nI 8000) hx hb d_BlockDeskModel_put_24 (by decide +kernel) ?_
        refine lv_icmp_le (tgt := 32) hx hb d_BlockDeskModel_put_27 (by decide) (fun c_27 => ?_) (fun c_27 => ?_)
        · have c_27 : hs + k ≤ 8000 := (nI_leI (by omega) (by omega)).mp c_27
          obtain ⟨k0, rfl⟩ : ∃ k0, k = k0 + 1 := ⟨k - 1, by omega⟩
          refine lv_iload_n hx hb d_BlockDeskModel_put_32 rfl (lv_at hl 2 rfl) ?_
          refine lv_iconst (v := nI 1) hx hb d_BlockDeskModel_put_33 (by decide +kernel) ?_
          refine lv_isub hx hb d_BlockDeskModel_put_34 ?_
          refine xq_top (nI (k0 + 1 - 1)) (pk_sub (by omega)) ?_
          refine lv_istore (lv' := [(4, .int (nI (k0 + 1 - 1))), (0, .ref b0), (1, .long v), (3, .int (nI (k0 + 1)))]) hx hb d_BlockDeskModel_put_35 hl (by decide) rfl (fun ls hl => ?_)
          refine lp_M_put (l := l) (meth := meth) hx hb hml hts hown hA b0 b1 b2 b3 b4 N rc bg en ss hs (k0 + 1) up ch wr o1 v g1 (by omega) (by omega) hK (fun f H locs hI hP hD hS ls hl => ?_) (k0 + 1) 0 g1 _ _ (by omega) zq_app_0 (hP.sub [0, 1] rfl) (hD.sub [0, 1] (by decide) rfl) hS ls (lv_sub hl [0, 1, 2, 3] rfl)
          refine lv_iconst (v := nI 1) hx hb d_BlockDeskModel_put_61 (by decide +kernel) ?_
          have hP9 := hP.sub (ws' := [(b0, .inr (1, [.int (nI N), .int up, .int ch, .int wr, .int (nI bg), .int (nI en), .ref b1, .int (nI (hs + (k0 + 1))), .ref b2, .int (nI ss), .ref b3, .ref b4, .int (nI rc)])), (b1, .inl (o1, 8000, .inl f))]) [0, 1] rfl
          have hD9 := hD.sub (ws' := [(b0, .inr (1, [.int (nI N), .int up, .int ch, .int wr, .int (nI bg), .int (nI en), .ref b1, .int (nI (hs + (k0 + 1))), .ref b2, .int (nI ss), .ref b3, .ref b4, .int (nI rc)])), (b1, .inl (o1, 8000, .inl f))]) [0, 1] (by decide) rfl
          have hK9 := hK.sub (tys' := [(o1, .int)]) [0] rfl
          exact W.zret (v := nI 1) hx hb hr zq_nb1 (fun t ht hW => ⟨⟨nI 1, (hs + (k0 + 1), f), rfl, Or.inl ⟨⟨c_4, by omega, by omega, by omega⟩, rfl, by rw [hkN], by rw [hkN]; exact hI⟩, by rw [ht]; exact hP9, va_K.moved hW.alike hK9, hD9⟩, hS.F ht⟩) hS.2.2 d_BlockDeskModel_put_62
        · have c_27 : ¬ (hs + k ≤ 8000) := fun h9 => c_27 ((nI_leI (by omega) (by omega)).mpr h9)
          refine lv_iconst (v := nI 0) hx hb d_BlockDeskModel_put_30 (by decide +kernel) ?_
          have hP9 := hP.sub (ws' := [(b0, .inr (1, [.int (nI N), .int up, .int ch, .int wr, .int (nI bg), .int (nI en), .ref b1, .int (nI hs), .ref b2, .int (nI ss), .ref b3, .ref b4, .int (nI rc)])), (b1, .inl (o1, 8000, .inl g1))]) [0, 1] rfl
          have hD9 := hD.sub (ws' := [(b0, .inr (1, [.int (nI N), .int up, .int ch, .int wr, .int (nI bg), .int (nI en), .ref b1, .int (nI hs), .ref b2, .int (nI ss), .ref b3, .ref b4, .int (nI rc)])), (b1, .inl (o1, 8000, .inl g1))]) [0, 1] (by decide) rfl
          have hK9 := hK.sub (tys' := [(o1, .int)]) [0] rfl
          exact W.zret (v := nI 0) hx hb hr zq_nb0 (fun t ht hW => ⟨⟨nI 0, (hs, g1), rfl, Or.inr ⟨fun h9 => by have q1 := h9.1; have q2 := h9.2.1; have q3 := h9.2.2.1; have q4 := h9.2.2.2; first | omega | exact absurd c_4 q1, rfl, rfl⟩, by rw [ht]; exact hP9, va_K.moved hW.alike hK9, hD9⟩, hS.F ht⟩) hS.2.2 d_BlockDeskModel_put_31
set_option maxHeartbeats 4000000 in
set_option maxRecDepth 100000 in
theorem lp_M_fill {p : Program} {l : Launch} {e : Env} {s : State} {m : MethodId} {args : Array Value} {below : List Frame} {meth : Method} {c : Code} {Q : State → Prop} {A : Nat → Prop} {dC : Nat → ClassId} {dI : Nat → Nat → Nat} (hx : p.tables.exec = Jvm.exec) (hb : c.code = b_BlockDeskModel_fill) (hml : c.maxLocals = 4) (hts : ∀ w ∈ w_BlockDeskModel_fill, w.before args s = true) (hown : s.vm.findClass R_BlockDeskModel = some m.cls) (hA : ∀ q : Nat, s.heap.size ≤ q → A q) (b0 : Nat) (b1 : Nat) (b2 : Nat) (b3 : Nat) (b4 : Nat) (N : Nat) (rc : Nat) (bg : Nat) (en : Nat) (ss : Nat) (hs : Nat) (k : Nat) (up : Int32) (ch : Int32) (wr : Int32) (v : Int32) (o1 : ClassId) (g1 : Nat → Int32) (hk : hs + k ≤ 8000) (hK : va_K (dC, dI) classes [(o1, .int)] s) (KK : ∀ (f : Nat → Int32) (H : Heap) (locs : List Loc), zq_app g1 f hs k (fun _ => v &&& nI 255) → va_P (dC, dI) classes [(b0, .inr (1, [.int (nI N), .int up, .int ch, .int wr, .int (nI bg), .int (nI en), .ref b1, .int (nI (hs + k)), .ref b2, .int (nI ss), .ref b3, .ref b4, .int (nI rc)])), (b1, .inl (o1, 8000, .inl f))] H → va_D A [(b0, .inr (1, [.int (nI N), .int up, .int ch, .int wr, .int (nI bg), .int (nI en), .ref b1, .int (nI (hs + k)), .ref b2, .int (nI ss), .ref b3, .ref b4, .int (nI rc)])), (b1, .inl (o1, 8000, .inl f))] → va_S A s.heap H locs → ∀ ls : Array Slot, lv_has ls 4 [(3, .int (nI k)), (0, .ref b0), (1, .int v), (2, .int (nI k))] → W p l e ({ frames := 1, cells := 0, slots := 0, locals := 22 } : Room) s m args below meth c H locs 0 0 Q (F0 m 52 ls [])) : ∀ (n d : Nat) (f : Nat → Int32) (H : Heap) (locs : List Loc), d + n = k → zq_app g1 f hs d (fun _ => v &&& nI 255) → va_P (dC, dI) classes [(b0, .inr (1, [.int (nI N), .int up, .int ch, .int wr, .int (nI bg), .int (nI en), .ref b1, .int (nI (hs + d)), .ref b2, .int (nI ss), .ref b3, .ref b4, .int (nI rc)])), (b1, .inl (o1, 8000, .inl f))] H → va_D A [(b0, .inr (1, [.int (nI N), .int up, .int ch, .int wr, .int (nI bg), .int (nI en), .ref b1, .int (nI (hs + d)), .ref b2, .int (nI ss), .ref b3, .ref b4, .int (nI rc)])), (b1, .inl (o1, 8000, .inl f))] → va_S A s.heap H locs → ∀ ls : Array Slot, lv_has ls 4 [(3, .int (nI d)), (0, .ref b0), (1, .int v), (2, .int (nI k))] → W p l e ({ frames := 1, cells := 0, slots := 0, locals := 22 } : Room) s m args below meth c H locs 0 0 Q (F0 m 35 ls []) := by
  have hin1 : ∀ w ∈ u_ws R_BlockDeskModel F_BlockDeskModel 13, w ∈ w_BlockDeskModel_fill := by decide +kernel
  intro n
  induction n with
  | zero =>
    intro d f H locs hdn hI hP hD hS ls hl
    have hdn : k = d := by omega
    subst hdn
    have hl : lv_has ls 4 [(3, .int (nI k)), (0, .ref b0), (1, .int v), (2, .int (nI k))] := hl
    refine lv_iload_n hx hb d_BlockDeskModel_fill_35 rfl (lv_at hl 0 rfl) ?_
    refine lv_iload_n hx hb d_BlockDeskModel_fill_36 rfl (lv_at hl 3 rfl) ?_
    refine lv_icmp_ge (tgt := 52) hx hb d_BlockDeskModel_fill_37 (by decide) (fun c_37 => ?_) (fun c_37 => ?_)
    · have c_37 : k ≤ k := (nI_leI (by omega) (by omega)).mp c_37
      exact KK f _ _ hI (hP.sub [0, 1] rfl) (hD.sub [0, 1] (by decide) rfl) hS ls (lv_sub hl [0, 1, 2, 3] rfl)
    · have c_37 : ¬ (k ≤ k) := fun h9 => c_37 ((nI_leI (by omega) (by omega)).mpr h9)
      exact absurd (by omega) c_37
  | succ n ih =>
    intro d f H locs hdn hI hP hD hS ls hl
    have hl : lv_has ls 4 [(3, .int (nI d)), (0, .ref b0), (1, .int v), (2, .int (nI k))] := hl
    refine lv_iload_n hx hb d_BlockDeskModel_fill_35 rfl (lv_at hl 0 rfl) ?_
    refine lv_iload_n hx hb d_BlockDeskModel_fill_36 rfl (lv_at hl 3 rfl) ?_
    refine lv_icmp_ge (tgt := 52) hx hb d_BlockDeskModel_fill_37 (by decide) (fun c_37 => ?_) (fun c_37 => ?_)
    · have c_37 : k ≤ d := (nI_leI (by omega) (by omega)).mp c_37
      exact absurd c_37 (by omega)
    · have c_37 : ¬ (k ≤ d) := fun h9 => c_37 ((nI_leI (by omega) (by omega)).mpr h9)
      refine lv_aload_n hx hb d_BlockDeskModel_fill_40 rfl (lv_at hl 1 rfl) ?_
      refine lv_iload_n hx hb d_BlockDeskModel_fill_41 rfl (lv_at hl 2 rfl) ?_
      have hPc := hP.sub (ws' := [(b0, .inr (1, [.int (nI N), .int up, .int ch, .int wr, .int (nI bg), .int (nI en), .ref b1, .int (nI (hs + d)), .ref b2, .int (nI ss), .ref b3, .ref b4, .int (nI rc)])), (b1, .inl (o1, 8000, .inl f))]) [0, 1] rfl
      have hDc := hD.sub (ws' := [(b0, .inr (1, [.int (nI N), .int up, .int ch, .int wr, .int (nI bg), .int (nI en), .ref b1, .int (nI (hs + d)), .ref b2, .int (nI ss), .ref b3, .ref b4, .int (nI rc)])), (b1, .inl (o1, 8000, .inl f))]) [0, 1] (by decide) rfl
      have hKc := hK.sub (tys' := [(o1, .int)]) [0] rfl
      have hFc := va_free (wc := [(b0, .inr (1, [.int (nI N), .int up, .int ch, .int wr, .int (nI bg), .int (nI en), .ref b1, .int (nI (hs + d)), .ref b2, .int (nI ss), .ref b3, .ref b4, .int (nI rc)])), (b1, .inl (o1, 8000, .inl f))]) hD hS hA [0, 1] rfl
      refine va_calli (va_runV (As := [.int v]) (rest := []) ⟨hx, hb, hml, hown, hts⟩ (c_BlockDeskModel_hold l dC dI H.size b0 b1 b2 b3 b4 N rc bg en ss (hs + d) up ch wr o1 f v (by omega)) (cwV 1 hts g_BlockDeskModel_fill_BlockDeskModel_hold rfl rfl rfl (by decide +kernel) ⟨Nat.le_of_ble_eq_true rfl, Nat.le_of_ble_eq_true rfl⟩) ⟨fun a U g mk q => by obtain ⟨q0, q1, qP, qK, qD⟩ := q; exact ⟨q0, q1, qP, va_K.moved (u := U) (U := U.calling g mk a) (Vm.Alike.refl U.vm) qK, qD⟩, va_recv hKc hPc (ci := 1) (q0 := 0) rfl rfl, fun U hU hW => ⟨rfl, by rw [hU], by rw [hU]; exact hPc, va_K.moved hW.alike hKc, hDc.weaken (fun _ _ _ _ => trivial)⟩⟩ rfl rfl hl.1 rfl (lv_room (Nat.le_of_ble_eq_true rfl)) d_BlockDeskModel_fill_42 ⟨(Nat.zero_le _), (Nat.zero_le _)⟩) hS (fun q _ h => hFc q h) hFc (fun r_h u t H1 locs ht hvm hw hB hz1 hk1 hS => ?_)
      obtain ⟨hP1, hK1, hD1⟩ := hB
      rw [ht] at hP1
      try dsimp only at hw
      obtain ⟨hP, hD⟩ := va_join (wr := []) (w1 := [(b0, .inr (1, [.int (nI N), .int up, .int ch, .int wr, .int (nI bg), .int (nI en), .ref b1, .int (nI ((hs + d) + 1)), .ref b2, .int (nI ss), .ref b3, .ref b4, .int (nI rc)])), (b1, .inl (o1, 8000, .inl (upd f (hs + d) (v &&& nI 255))))]) hP hD [0, 1] [] rfl rfl (by decide) (by decide) hk1 hFc hP1 hD1
      generalize H1 = H at hP hS ⊢
      have hP : va_P (dC, dI) classes [(b0, .inr (1, [.int (nI N), .int up, .int ch, .int wr, .int (nI bg), .int (nI en), .ref b1, .int (nI ((hs + d) + 1)), .ref b2, .int (nI ss), .ref b3, .ref b4, .int (nI rc)])), (b1, .inl (o1, 8000, .inl (upd f (hs + d) (v &&& nI 255))))] H := hP
      have hD : va_D A [(b0, .inr (1, [.int (nI N), .int up, .int ch, .int wr, .int (nI bg), .int (nI en), .ref b1, .int (nI ((hs + d) + 1)), .ref b2, .int (nI ss), .ref b3, .ref b4, .int (nI rc)])), (b1, .inl (o1, 8000, .inl (upd f (hs + d) (v &&& nI 255))))] := hD
      refine lv_pop hx hb d_BlockDeskModel_fill_45 rfl ?_
      refine lv_iinc (v := nI (d + 1)) (lv' := [(3, .int (nI (d + 1))), (0, .ref b0), (1, .int v), (2, .int (nI k))]) hx hb d_BlockDeskModel_fill_46 hl (k := 0) rfl (show nI d + nI 1 = nI (d + 1) from nI_add _ _) (by decide) rfl (fun ls hl => ?_)
      refine lv_goto (tgt := 35) hx hb d_BlockDeskModel_fill_49 (by decide) ?_
      exact ih (d + 1) _ _ _ (by omega) (zq_app_s hI rfl) (hP.sub [0, 1] rfl) (hD.sub [0, 1] (by decide) rfl) hS ls (lv_sub hl [0, 1, 2, 3] rfl)
set_option maxHeartbeats 4000000 in
set_option maxRecDepth 100000 in
theorem c_BlockDeskModel_fill (l : Launch) (dC : Nat → ClassId) (dI : Nat → Nat → Nat) (sz : Nat) (b0 : Nat) (b1 : Nat) (b2 : Nat) (b3 : Nat) (b4 : Nat) (N : Nat) (rc : Nat) (bg : Nat) (en : Nat) (ss : Nat) (hs : Nat) (up : Int32) (ch : Int32) (wr : Int32) (o1 : ClassId) (g1 : Nat → Int32) (v : Int32) (n : Int32) (hhs : hs ≤ 8000) : Met l y_BlockDeskModel_fill w_BlockDeskModel_fill ({ frames := 1, cells := 0, slots := 0, locals := 22 }) (va_Pc [.ref b0, .int v, .int n] (fun U => U.heap.size = sz ∧ va_P (dC, dI) classes [(b0, .inr (1, [.int (nI N), .int up, .int ch, .int wr, .int (nI bg), .int (nI en), .ref b1, .int (nI hs), .ref b2, .int (nI ss), .ref b3, .ref b4, .int (nI rc)])), (b1, .inl (o1, 8000, .inl g1))] U.heap ∧ va_K (dC, dI) classes [(o1, .int)] U ∧ va_D (fun _ => True) [(b0, .inr (1, [.int (nI N), .int up, .int ch, .int wr, .int (nI bg), .int (nI en), .ref b1, .int (nI hs), .ref b2, .int (nI ss), .ref b3, .ref b4, .int (nI rc)])), (b1, .inl (o1, 8000, .inl g1))])) (va_Qi (fun (r : Int32) (u : Nat × (Nat → Int32)) => (zq_okP up hs 8000 n ∧ r = nI 1 ∧ u.1 = hs + n.toNatClampNeg ∧ zq_app g1 u.2 hs n.toNatClampNeg (fun _ => v &&& nI 255)) ∨ (¬ zq_okP up hs 8000 n ∧ r = nI 0 ∧ u = (hs, g1))) (fun (u : Nat × (Nat → Int32)) (t : State) => match u with | (hs', f') => va_P (dC, dI) classes [(b0, .inr (1, [.int (nI N), .int up, .int ch, .int wr, .int (nI bg), .int (nI en), .ref b1, .int (nI hs'), .ref b2, .int (nI ss), .ref b3, .ref b4, .int (nI rc)])), (b1, .inl (o1, 8000, .inl f'))] t.heap ∧ va_K (dC, dI) classes [(o1, .int)] t ∧ va_D (va_A [(b0, .inr (1, [.int (nI N), .int up, .int ch, .int wr, .int (nI bg), .int (nI en), .ref b1, .int (nI hs), .ref b2, .int (nI ss), .ref b3, .ref b4, .int (nI rc)])), (b1, .inl (o1, 8000, .inl g1))] sz) [(b0, .inr (1, [.int (nI N), .int up, .int ch, .int wr, .int (nI bg), .int (nI en), .ref b1, .int (nI hs'), .ref b2, .int (nI ss), .ref b3, .ref b4, .int (nI rc)])), (b1, .inl (o1, 8000, .inl f'))]) (va_A [(b0, .inr (1, [.int (nI N), .int up, .int ch, .int wr, .int (nI bg), .int (nI en), .ref b1, .int (nI hs), .ref b2, .int (nI ss), .ref b3, .ref b4, .int (nI rc)])), (b1, .inl (o1, 8000, .inl g1))] sz)) 0 0 (va_A [(b0, .inr (1, [.int (nI N), .int up, .int ch, .int wr, .int (nI bg), .int (nI en), .ref b1, .int (nI hs), .ref b2, .int (nI ss), .ref b3, .ref b4, .int (nI rc)])), (b1, .inl (o1, 8000, .inl g1))] sz) := by
  refine Met.ofW (cc := b_BlockDeskModel_fill) (maxL := 4) (ret := (some .boolean)) (by decide) rfl ?_
  intro p e s m args below meth c s₁ B hml hv
  obtain ⟨rfl, hsz, hP, hK, hD0⟩ := hv
  have hx := B.exec
  have hb := B.bytes
  have hr := B.returns
  have hts := atoms_spec (ws := w_BlockDeskModel_fill) B.pre
  have hown : s.vm.findClass R_BlockDeskModel = some m.cls := findClass_of_methodNamed B.named
  have hlocks := B.notSynchronized
  subst hsz
  have hD := hD0.self (sz := s.heap.size)
  generalize hAe : va_A [(b0, .inr (1, [.int (nI N), .int up, .int ch, .int wr, .int (nI bg), .int (nI en), .ref b1, .int (nI hs), .ref b2, .int (nI ss), .ref b3, .ref b4, .int (nI rc)])), (b1, .inl (o1, 8000, .inl g1))] s.heap.size = A at hD ⊢
  have hA : ∀ q : Nat, s.heap.size ≤ q → A q := fun q h => by rw [← hAe]; exact Or.inr h
  have hS : va_S A s.heap s.heap [] := va_S.rf
  have hP : va_P (dC, dI) classes [(b0, .inr (1, [.int (nI N), .int up, .int ch, .int wr, .int (nI bg), .int (nI en), .ref b1, .int (nI hs), .ref b2, .int (nI ss), .ref b3, .ref b4, .int (nI rc)])), (b1, .inl (o1, 8000, .inl g1))] s.heap := hP
  have hin1 : ∀ w ∈ u_ws R_BlockDeskModel F_BlockDeskModel 13, w ∈ w_BlockDeskModel_fill := by decide +kernel
  have hl := lv_entry ([.ref b0, .int v, .int n]) (n := 4) (Nat.le_of_ble_eq_true rfl)
  rw [lg_entry_eq]
  generalize (lg_sl ([.ref b0, .int v, .int n]) ++ List.replicate (4 - (lg_sl ([.ref b0, .int v, .int n])).length) Slot.unset).toArray = ls at hl ⊢
  have hl : lv_has ls 4 [(0, .ref b0), (1, .int v), (2, .int n)] := hl
  refine lv_aload_n hx hb d_BlockDeskModel_fill_0 rfl (lv_at hl 0 rfl) ?_
  refine va_get (D := (dC, dI)) (ci := 1) (v := .int up) (C := R_BlockDeskModel) (T := F_BlockDeskModel) (N := 13) hx hb hts hin1 hown hK hP 0 rfl rfl 1 (by decide) (hts (.fieldLink R_BlockDeskModel 7 "BlockDeskModel" "up" "Z") (by decide +kernel)) (fun _ h9 => h9) rfl d_BlockDeskModel_fill_1 ?_
  refine lv_if_eq (tgt := 31) hx hb d_BlockDeskModel_fill_4 (by decide) (fun c_4 => ?_) (fun c_4 => ?_)
  · refine lv_iconst (v := nI 0) hx hb d_BlockDeskModel_fill_31 (by decide +kernel) ?_
    have hP9 := hP.sub (ws' := [(b0, .inr (1, [.int (nI N), .int up, .int ch, .int wr, .int (nI bg), .int (nI en), .ref b1, .int (nI hs), .ref b2, .int (nI ss), .ref b3, .ref b4, .int (nI rc)])), (b1, .inl (o1, 8000, .inl g1))]) [0, 1] rfl
    have hD9 := hD.sub (ws' := [(b0, .inr (1, [.int (nI N), .int up, .int ch, .int wr, .int (nI bg), .int (nI en), .ref b1, .int (nI hs), .ref b2, .int (nI ss), .ref b3, .ref b4, .int (nI rc)])), (b1, .inl (o1, 8000, .inl g1))]) [0, 1] (by decide) rfl
    have hK9 := hK.sub (tys' := [(o1, .int)]) [0] rfl
    exact W.zret (v := nI 0) hx hb hr zq_nb0 (fun t ht hW => ⟨⟨nI 0, (hs, g1), rfl, Or.inr ⟨fun h9 => by have q1 := h9.1; have q2 := h9.2.1; have q3 := h9.2.2.1; have q4 := h9.2.2.2; first | omega | exact absurd c_4 q1, rfl, rfl⟩, by rw [ht]; exact hP9, va_K.moved hW.alike hK9, hD9⟩, hS.F ht⟩) hS.2.2 d_BlockDeskModel_fill_32
  · refine lv_iload_n hx hb d_BlockDeskModel_fill_7 rfl (lv_at hl 2 rfl) ?_
    refine lv_iconst (v := nI 1) hx hb d_BlockDeskModel_fill_8 (by decide +kernel) ?_
    refine lv_icmp_lt (tgt := 31) hx hb d_BlockDeskModel_fill_9 (by decide) (fun c_9 => ?_) (fun c_9 => ?_)
    · have c_9 : n.toInt < ((1 : Nat) : Int) := (xq_lt_r (by omega)).mp c_9
      refine lv_iconst (v := nI 0) hx hb d_BlockDeskModel_fill_31 (by decide +kernel) ?_
      have hP9 := hP.sub (ws' := [(b0, .inr (1, [.int (nI N), .int up, .int ch, .int wr, .int (nI bg), .int (nI en), .ref b1, .int (nI hs), .ref b2, .int (nI ss), .ref b3, .ref b4, .int (nI rc)])), (b1, .inl (o1, 8000, .inl g1))]) [0, 1] rfl
      have hD9 := hD.sub (ws' := [(b0, .inr (1, [.int (nI N), .int up, .int ch, .int wr, .int (nI bg), .int (nI en), .ref b1, .int (nI hs), .ref b2, .int (nI ss), .ref b3, .ref b4, .int (nI rc)])), (b1, .inl (o1, 8000, .inl g1))]) [0, 1] (by decide) rfl
      have hK9 := hK.sub (tys' := [(o1, .int)]) [0] rfl
      exact W.zret (v := nI 0) hx hb hr zq_nb0 (fun t ht hW => ⟨⟨nI 0, (hs, g1), rfl, Or.inr ⟨fun h9 => by have q1 := h9.1; have q2 := h9.2.1; have q3 := h9.2.2.1; have q4 := h9.2.2.2; first | omega | exact absurd c_4 q1, rfl, rfl⟩, by rw [ht]; exact hP9, va_K.moved hW.alike hK9, hD9⟩, hS.F ht⟩) hS.2.2 d_BlockDeskModel_fill_32
    · have c_9 : ¬ (n.toInt < ((1 : Nat) : Int)) := fun h9 => c_9 ((xq_lt_r (by omega)).mpr h9)
      refine lv_iload_n hx hb d_BlockDeskModel_fill_12 rfl (lv_at hl 2 rfl) ?_
      refine lv_sipush (v := nI 8000) hx hb d_BlockDeskModel_fill_13 (by decide +kernel) ?_
      refine lv_icmp_gt (tgt := 31) hx hb d_BlockDeskModel_fill_16 (by decide) (fun c_16 => ?_) (fun c_16 => ?_)
      · have c_16 : ((8000 : Nat) : Int) < n.toInt := (xq_lt_l (by omega)).mp c_16
        refine lv_iconst (v := nI 0) hx hb d_BlockDeskModel_fill_31 (by decide +kernel) ?_
        have hP9 := hP.sub (ws' := [(b0, .inr (1, [.int (nI N), .int up, .int ch, .int wr, .int (nI bg), .int (nI en), .ref b1, .int (nI hs), .ref b2, .int (nI ss), .ref b3, .ref b4, .int (nI rc)])), (b1, .inl (o1, 8000, .inl g1))]) [0, 1] rfl
        have hD9 := hD.sub (ws' := [(b0, .inr (1, [.int (nI N), .int up, .int ch, .int wr, .int (nI bg), .int (nI en), .ref b1, .int (nI hs), .ref b2, .int (nI ss), .ref b3, .ref b4, .int (nI rc)])), (b1, .inl (o1, 8000, .inl g1))]) [0, 1] (by decide) rfl
        have hK9 := hK.sub (tys' := [(o1, .int)]) [0] rfl
        exact W.zret (v := nI 0) hx hb hr zq_nb0 (fun t ht hW => ⟨⟨nI 0, (hs, g1), rfl, Or.inr ⟨fun h9 => by have q1 := h9.1; have q2 := h9.2.1; have q3 := h9.2.2.1; have q4 := h9.2.2.2; first | omega | exact absurd c_4 q1, rfl, rfl⟩, by rw [ht]; exact hP9, va_K.moved hW.alike hK9, hD9⟩, hS.F ht⟩) hS.2.2 d_BlockDeskModel_fill_32
      · have c_16 : ¬ (((8000 : Nat) : Int) < n.toInt) := fun h9 => c_16 ((xq_lt_l (by omega)).mpr h9)
        obtain ⟨k, -, rfl, hkI, hkN⟩ := xq_nat (x := n) (by omega)
        have hl : lv_has ls 4 [(0, .ref b0), (1, .int v), (2, .int (nI k))] := hl
        refine lv_aload_n hx hb d_BlockDeskModel_fill_19 rfl (lv_at hl 0 rfl) ?_
        refine va_get (D := (dC, dI)) (ci := 1) (v := .int (nI hs)) (C := R_BlockDeskModel) (T := F_BlockDeskModel) (N := 13) hx hb hts hin1 hown hK hP 0 rfl rfl 7 (by decide) (hts (.fieldLink R_BlockDeskModel 33 "BlockDeskModel" "inHand" "I") (by decide +kernel)) (fun _ h9 => h9) rfl d_BlockDeskModel_fill_20 ?_
        refine lv_iload_n hx hb d_BlockDeskModel_fill_23 rfl (lv_at hl 2 rfl) ?_
        refine lv_iadd hx hb d_BlockDeskModel_fill_24 ?_
        refine xq_top (nI (hs + k)) (nI_add _ _) ?_
        refine lv_sipush (v := nI 8000) hx hb d_BlockDeskModel_fill_25 (by decide +kernel) ?_
        refine lv_icmp_le (tgt := 33) hx hb d_BlockDeskModel_fill_28 (by decide) (fun c_28 => ?_) (fun c_28 => ?_)
        · have c_28 : hs + k ≤ 8000 := (nI_leI (by omega) (by omega)).mp c_28
          refine lv_iconst (v := nI 0) hx hb d_BlockDeskModel_fill_33 (by decide +kernel) ?_
          refine lv_istore_n (lv' := [(3, .int (nI 0)), (0, .ref b0), (1, .int v), (2, .int (nI k))]) hx hb d_BlockDeskModel_fill_34 rfl hl (by decide) rfl (fun ls hl => ?_)
          refine lp_M_fill (l := l) (meth := meth) hx hb hml hts hown hA b0 b1 b2 b3 b4 N rc bg en ss hs k up ch wr v o1 g1 (by omega) hK (fun f H locs hI hP hD hS ls hl => ?_) k 0 g1 _ _ (by omega) zq_app_0 (hP.sub [0, 1] rfl) (hD.sub [0, 1] (by decide) rfl) hS ls (lv_sub hl [0, 1, 2, 3] rfl)
          refine lv_iconst (v := nI 1) hx hb d_BlockDeskModel_fill_52 (by decide +kernel) ?_
          have hP9 := hP.sub (ws' := [(b0, .inr (1, [.int (nI N), .int up, .int ch, .int wr, .int (nI bg), .int (nI en), .ref b1, .int (nI (hs + k)), .ref b2, .int (nI ss), .ref b3, .ref b4, .int (nI rc)])), (b1, .inl (o1, 8000, .inl f))]) [0, 1] rfl
          have hD9 := hD.sub (ws' := [(b0, .inr (1, [.int (nI N), .int up, .int ch, .int wr, .int (nI bg), .int (nI en), .ref b1, .int (nI (hs + k)), .ref b2, .int (nI ss), .ref b3, .ref b4, .int (nI rc)])), (b1, .inl (o1, 8000, .inl f))]) [0, 1] (by decide) rfl
          have hK9 := hK.sub (tys' := [(o1, .int)]) [0] rfl
          exact W.zret (v := nI 1) hx hb hr zq_nb1 (fun t ht hW => ⟨⟨nI 1, (hs + k, f), rfl, Or.inl ⟨⟨c_4, by omega, by omega, by omega⟩, rfl, by rw [hkN], by rw [hkN]; exact hI⟩, by rw [ht]; exact hP9, va_K.moved hW.alike hK9, hD9⟩, hS.F ht⟩) hS.2.2 d_BlockDeskModel_fill_53
        · have c_28 : ¬ (hs + k ≤ 8000) := fun h9 => c_28 ((nI_leI (by omega) (by omega)).mpr h9)
          refine lv_iconst (v := nI 0) hx hb d_BlockDeskModel_fill_31 (by decide +kernel) ?_
          have hP9 := hP.sub (ws' := [(b0, .inr (1, [.int (nI N), .int up, .int ch, .int wr, .int (nI bg), .int (nI en), .ref b1, .int (nI hs), .ref b2, .int (nI ss), .ref b3, .ref b4, .int (nI rc)])), (b1, .inl (o1, 8000, .inl g1))]) [0, 1] rfl
          have hD9 := hD.sub (ws' := [(b0, .inr (1, [.int (nI N), .int up, .int ch, .int wr, .int (nI bg), .int (nI en), .ref b1, .int (nI hs), .ref b2, .int (nI ss), .ref b3, .ref b4, .int (nI rc)])), (b1, .inl (o1, 8000, .inl g1))]) [0, 1] (by decide) rfl
          have hK9 := hK.sub (tys' := [(o1, .int)]) [0] rfl
          exact W.zret (v := nI 0) hx hb hr zq_nb0 (fun t ht hW => ⟨⟨nI 0, (hs, g1), rfl, Or.inr ⟨fun h9 => by have q1 := h9.1; have q2 := h9.2.1; have q3 := h9.2.2.1; have q4 := h9.2.2.2; first | omega | exact absurd c_4 q1, rfl, rfl⟩, by rw [ht]; exact hP9, va_K.moved hW.alike hK9, hD9⟩, hS.F ht⟩) hS.2.2 d_BlockDeskModel_fill_32
