set_option maxHeartbeats 4000000 in
set_option maxRecDepth 100000 in
theorem lp_M_rec {p : Program} {l : Launch} {e : Env} {s : State} {m : MethodId} {args : Array Value} {below : List Frame} {meth : Method} {c : Code} {Q : State → Prop} {A : Nat → Prop} {dC : Nat → ClassId} {dI : Nat → Nat → Nat} (hx : p.tables.exec = Jvm.exec) (hb : c.code = b_BlockDeskModel_record) (hml : c.maxLocals = 3) (hts : ∀ w ∈ w_BlockDeskModel_record, w.before args s = true) (hown : s.vm.findClass R_BlockDeskModel = some m.cls) (hA : ∀ q : Nat, s.heap.size ≤ q → A q) (b0 : Nat) (b1 : Nat) (b2 : Nat) (b3 : Nat) (b4 : Nat) (N : Nat) (rc : Nat) (bg : Nat) (en : Nat) (ss : Nat) (hs : Nat) (ba : Nat) (la : Nat) (up : Int32) (ch : Int32) (wr : Int32) (o1 : ClassId) (o3 : ClassId) (o4 : ClassId) (g1 : Nat → Int32) (g3 : Nat → Int32) (g4 : Nat → Int32) (hba : g4 rc = nI ba) (hrc : rc ≤ 4000) (hhs : hs ≤ 8000) (hbb : ba + hs ≤ 16000) (hK : va_K (dC, dI) classes [(o1, .int), (o3, .int), (o4, .int)] s) (KK : ∀ (f : Nat → Int32) (H : Heap) (locs : List Loc), zq_app g3 f ba hs g1 → va_P (dC, dI) classes [(b0, .inr (1, [.int (nI N), .int up, .int ch, .int wr, .int (nI bg), .int (nI en), .ref b1, .int (nI hs), .ref b2, .int (nI ss), .ref b3, .ref b4, .int (nI rc)])), (b1, .inl (o1, 8000, .inl g1)), (b3, .inl (o3, 16000, .inl f)), (b4, .inl (o4, 4001, .inl g4))] H → va_D A [(b0, .inr (1, [.int (nI N), .int up, .int ch, .int wr, .int (nI bg), .int (nI en), .ref b1, .int (nI hs), .ref b2, .int (nI ss), .ref b3, .ref b4, .int (nI rc)])), (b1, .inl (o1, 8000, .inl g1)), (b3, .inl (o3, 16000, .inl f)), (b4, .inl (o4, 4001, .inl g4))] → va_S A s.heap H locs → ∀ ls : Array Slot, lv_has ls 3 [(2, .int (nI hs)), (0, .ref b0), (1, .int (nI la))] → W p l e ({ frames := 1, cells := 0, slots := 0, locals := 22 } : Room) s m args below meth c H locs 0 0 Q (F0 m 105 ls [])) : ∀ (n d : Nat) (f : Nat → Int32) (H : Heap) (locs : List Loc), d + n = hs → zq_app g3 f ba d g1 → va_P (dC, dI) classes [(b0, .inr (1, [.int (nI N), .int up, .int ch, .int wr, .int (nI bg), .int (nI en), .ref b1, .int (nI hs), .ref b2, .int (nI ss), .ref b3, .ref b4, .int (nI rc)])), (b1, .inl (o1, 8000, .inl g1)), (b3, .inl (o3, 16000, .inl f)), (b4, .inl (o4, 4001, .inl g4))] H → va_D A [(b0, .inr (1, [.int (nI N), .int up, .int ch, .int wr, .int (nI bg), .int (nI en), .ref b1, .int (nI hs), .ref b2, .int (nI ss), .ref b3, .ref b4, .int (nI rc)])), (b1, .inl (o1, 8000, .inl g1)), (b3, .inl (o3, 16000, .inl f)), (b4, .inl (o4, 4001, .inl g4))] → va_S A s.heap H locs → ∀ ls : Array Slot, lv_has ls 3 [(2, .int (nI d)), (0, .ref b0), (1, .int (nI la))] → W p l e ({ frames := 1, cells := 0, slots := 0, locals := 22 } : Room) s m args below meth c H locs 0 0 Q (F0 m 69 ls []) := by
  have hin1 : ∀ w ∈ u_ws R_BlockDeskModel F_BlockDeskModel 13, w ∈ w_BlockDeskModel_record := by decide +kernel
  intro n
  induction n with
  | zero =>
    intro d f H locs hdn hI hP hD hS ls hl
    have hdn : hs = d := by omega
    subst hdn
    have hl : lv_has ls 3 [(2, .int (nI hs)), (0, .ref b0), (1, .int (nI la))] := hl
    refine lv_iload_n hx hb d_BlockDeskModel_record_69 rfl (lv_at hl 0 rfl) ?_
    refine lv_aload_n hx hb d_BlockDeskModel_record_70 rfl (lv_at hl 1 rfl) ?_
    refine va_get (D := (dC, dI)) (ci := 1) (v := .int (nI hs)) (C := R_BlockDeskModel) (T := F_BlockDeskModel) (N := 13) hx hb hts hin1 hown hK hP 0 rfl rfl 7 (by decide) (hts (.fieldLink R_BlockDeskModel 33 "BlockDeskModel" "inHand" "I") (by decide +kernel)) (fun _ h9 => h9) rfl d_BlockDeskModel_record_71 ?_
    refine lv_icmp_ge (tgt := 105) hx hb d_BlockDeskModel_record_74 (by decide) (fun c_74 => ?_) (fun c_74 => ?_)
    · have c_74 : hs ≤ hs := (nI_leI (by omega) (by omega)).mp c_74
      exact KK f _ _ hI (hP.sub [0, 1, 2, 3] rfl) (hD.sub [0, 1, 2, 3] (by decide) rfl) hS ls (lv_sub hl [0, 1, 2] rfl)
    · have c_74 : ¬ (hs ≤ hs) := fun h9 => c_74 ((nI_leI (by omega) (by omega)).mpr h9)
      exact absurd (by omega) c_74
  | succ n ih =>
    intro d f H locs hdn hI hP hD hS ls hl
    have hl : lv_has ls 3 [(2, .int (nI d)), (0, .ref b0), (1, .int (nI la))] := hl
    refine lv_iload_n hx hb d_BlockDeskModel_record_69 rfl (lv_at hl 0 rfl) ?_
    refine lv_aload_n hx hb d_BlockDeskModel_record_70 rfl (lv_at hl 1 rfl) ?_
    refine va_get (D := (dC, dI)) (ci := 1) (v := .int (nI hs)) (C := R_BlockDeskModel) (T := F_BlockDeskModel) (N := 13) hx hb hts hin1 hown hK hP 0 rfl rfl 7 (by decide) (hts (.fieldLink R_BlockDeskModel 33 "BlockDeskModel" "inHand" "I") (by decide +kernel)) (fun _ h9 => h9) rfl d_BlockDeskModel_record_71 ?_
    refine lv_icmp_ge (tgt := 105) hx hb d_BlockDeskModel_record_74 (by decide) (fun c_74 => ?_) (fun c_74 => ?_)
    · have c_74 : hs ≤ d := (nI_leI (by omega) (by omega)).mp c_74
      exact absurd c_74 (by omega)
    · have c_74 : ¬ (hs ≤ d) := fun h9 => c_74 ((nI_leI (by omega) (by omega)).mpr h9)
      refine lv_aload_n hx hb d_BlockDeskModel_record_77 rfl (lv_at hl 1 rfl) ?_
      refine va_get (D := (dC, dI)) (ci := 1) (v := .ref b3) (C := R_BlockDeskModel) (T := F_BlockDeskModel) (N := 13) hx hb hts hin1 hown hK hP 0 rfl rfl 10 (by decide) (hts (.fieldLink R_BlockDeskModel 24 "BlockDeskModel" "bytes" "[I") (by decide +kernel)) (fun _ h9 => h9) rfl d_BlockDeskModel_record_78 ?_
      refine lv_aload_n hx hb d_BlockDeskModel_record_81 rfl (lv_at hl 1 rfl) ?_
      refine va_get (D := (dC, dI)) (ci := 1) (v := .ref b4) (C := R_BlockDeskModel) (T := F_BlockDeskModel) (N := 13) hx hb hts hin1 hown hK hP 0 rfl rfl 11 (by decide) (hts (.fieldLink R_BlockDeskModel 27 "BlockDeskModel" "starts" "[I") (by decide +kernel)) (fun _ h9 => h9) rfl d_BlockDeskModel_record_82 ?_
      refine lv_aload_n hx hb d_BlockDeskModel_record_85 rfl (lv_at hl 1 rfl) ?_
      refine va_get (D := (dC, dI)) (ci := 1) (v := .int (nI rc)) (C := R_BlockDeskModel) (T := F_BlockDeskModel) (N := 13) hx hb hts hin1 hown hK hP 0 rfl rfl 12 (by decide) (hts (.fieldLink R_BlockDeskModel 52 "BlockDeskModel" "records" "I") (by decide +kernel)) (fun _ h9 => h9) rfl d_BlockDeskModel_record_86 ?_
      refine va_iald hx hb hK hP 3 2 rfl rfl (vp_in_nI (by omega) (by omega)) d_BlockDeskModel_record_89 ?_
      refine xq_top (nI ba) (by rw [nI_clamp (by omega)]; exact hba) ?_
      refine lv_iload_n hx hb d_BlockDeskModel_record_90 rfl (lv_at hl 0 rfl) ?_
      refine lv_iadd hx hb d_BlockDeskModel_record_91 ?_
      refine xq_top (nI (ba + d)) (nI_add _ _) ?_
      refine lv_aload_n hx hb d_BlockDeskModel_record_92 rfl (lv_at hl 1 rfl) ?_
      refine va_get (D := (dC, dI)) (ci := 1) (v := .ref b1) (C := R_BlockDeskModel) (T := F_BlockDeskModel) (N := 13) hx hb hts hin1 hown hK hP 0 rfl rfl 6 (by decide) (hts (.fieldLink R_BlockDeskModel 17 "BlockDeskModel" "hand" "[I") (by decide +kernel)) (fun _ h9 => h9) rfl d_BlockDeskModel_record_93 ?_
      refine lv_iload_n hx hb d_BlockDeskModel_record_96 rfl (lv_at hl 0 rfl) ?_
      refine va_iald hx hb hK hP 1 0 rfl rfl (vp_in_nI (by omega) (by omega)) d_BlockDeskModel_record_97 ?_
      refine xq_top (g1 d) (by rw [nI_clamp (by omega)]) ?_
      refine va_iast hx hb hK hP hD hS 2 1 rfl rfl (vp_in_nI (by omega) (by omega)) d_BlockDeskModel_record_98 (fun H locs hP hD hS => ?_)
      rw [nI_clamp (n := ba + d) (by omega)] at hP hD
      have hP : va_P (dC, dI) classes [(b0, .inr (1, [.int (nI N), .int up, .int ch, .int wr, .int (nI bg), .int (nI en), .ref b1, .int (nI hs), .ref b2, .int (nI ss), .ref b3, .ref b4, .int (nI rc)])), (b1, .inl (o1, 8000, .inl g1)), (b3, .inl (o3, 16000, .inl (upd f (ba + d) (g1 d)))), (b4, .inl (o4, 4001, .inl g4))] H := hP
      have hD : va_D A [(b0, .inr (1, [.int (nI N), .int up, .int ch, .int wr, .int (nI bg), .int (nI en), .ref b1, .int (nI hs), .ref b2, .int (nI ss), .ref b3, .ref b4, .int (nI rc)])), (b1, .inl (o1, 8000, .inl g1)), (b3, .inl (o3, 16000, .inl (upd f (ba + d) (g1 d)))), (b4, .inl (o4, 4001, .inl g4))] := hD
      refine lv_iinc (v := nI (d + 1)) (lv' := [(2, .int (nI (d + 1))), (0, .ref b0), (1, .int (nI la))]) hx hb d_BlockDeskModel_record_99 hl (k := 0) rfl (show nI d + nI 1 = nI (d + 1) from nI_add _ _) (by decide) rfl (fun ls hl => ?_)
      refine lv_goto (tgt := 69) hx hb d_BlockDeskModel_record_102 (by decide) ?_
      exact ih (d + 1) _ _ _ (by omega) (zq_app_s hI rfl) (hP.sub [0, 1, 2, 3] rfl) (hD.sub [0, 1, 2, 3] (by decide) rfl) hS ls (lv_sub hl [0, 1, 2] rfl)
set_option maxHeartbeats 4000000 in
set_option maxRecDepth 100000 in
theorem c_BlockDeskModel_record (l : Launch) (dC : Nat → ClassId) (dI : Nat → Nat → Nat) (sz : Nat) (b0 : Nat) (b1 : Nat) (b2 : Nat) (b3 : Nat) (b4 : Nat) (N : Nat) (rc : Nat) (bg : Nat) (ss : Nat) (hs : Nat) (up : Int32) (ch : Int32) (wr : Int32) (o1 : ClassId) (o3 : ClassId) (o4 : ClassId) (tu : Nat) (ba : Nat) (qq : Nat) (g1 : Nat → Int32) (g3 : Nat → Int32) (g4 : Nat → Int32) (hch : zq_chok ch) (hN : N ≤ 32) (hba : g4 rc = nI ba) (hbt : ba ≤ tu) (htb : tu ≤ 16000) (h4 : 4 * rc ≤ tu) (hhs : hs ≤ 8000) (hbg : bg = 500 * qq) (hbb : bg ≤ 100000000) : Met l y_BlockDeskModel_record w_BlockDeskModel_record ({ frames := 1, cells := 0, slots := 0, locals := 22 }) (va_Pc [.ref b0] (fun U => U.heap.size = sz ∧ va_P (dC, dI) classes [(b0, .inr (1, [.int (nI N), .int up, .int ch, .int wr, .int (nI bg), .int (nI (bg + tu)), .ref b1, .int (nI hs), .ref b2, .int (nI ss), .ref b3, .ref b4, .int (nI rc)])), (b1, .inl (o1, 8000, .inl g1)), (b3, .inl (o3, 16000, .inl g3)), (b4, .inl (o4, 4001, .inl g4))] U.heap ∧ va_K (dC, dI) classes [(o1, .int), (o3, .int), (o4, .int)] U ∧ va_D (fun _ => True) [(b0, .inr (1, [.int (nI N), .int up, .int ch, .int wr, .int (nI bg), .int (nI (bg + tu)), .ref b1, .int (nI hs), .ref b2, .int (nI ss), .ref b3, .ref b4, .int (nI rc)])), (b1, .inl (o1, 8000, .inl g1)), (b3, .inl (o3, 16000, .inl g3)), (b4, .inl (o4, 4001, .inl g4))])) (va_Qi (fun (r : Int32) (u : Nat × Nat × Int32 × Nat × Int32 × Int32 × (Nat → Int32) × (Nat → Int32)) => ((up = 0 ∨ 500 * N < tu + 4 + hs) ∧ r = nI 0 ∧ u = (rc, bg + tu, up, hs, ch, wr, g3, g4)) ∨ (¬ up = 0 ∧ tu + 4 + hs ≤ 500 * N ∧ r = nI 2 ∧ ∃ (up1 : Int32) (hs1 : Nat) (ch1 wr1 : Int32), (nI 0, up1, hs1, ch1, wr1) = zq_wb up hs ch wr (nI ((tu + 4 + hs - 1) / 500 - (tu / 500) + 1)) ∧ u = (rc, bg + tu, up1, hs1, ch1, wr1, g3, g4)) ∨ (¬ up = 0 ∧ tu + 4 + hs ≤ 500 * N ∧ r = nI 1 ∧ ∃ (up1 ch1 wr1 : Int32) (fx : Nat → Int32), (nI 1, up1, hs, ch1, wr1) = zq_wb up hs ch wr (nI ((tu + 4 + hs - 1) / 500 - (tu / 500) + 1)) ∧ zq_app g3 fx (ba) hs g1 ∧ u = (rc + 1, bg + (tu + 4 + hs), up1, 0, ch1, wr1, fx, upd g4 (rc + 1) (nI (ba + hs))))) (fun (u : Nat × Nat × Int32 × Nat × Int32 × Int32 × (Nat → Int32) × (Nat → Int32)) (t : State) => match u with | (rc', en', up', hs', ch', wr', f', f2') => va_P (dC, dI) classes [(b0, .inr (1, [.int (nI N), .int up', .int ch', .int wr', .int (nI bg), .int (nI en'), .ref b1, .int (nI hs'), .ref b2, .int (nI ss), .ref b3, .ref b4, .int (nI rc')])), (b1, .inl (o1, 8000, .inl g1)), (b3, .inl (o3, 16000, .inl f')), (b4, .inl (o4, 4001, .inl f2'))] t.heap ∧ va_K (dC, dI) classes [(o1, .int), (o3, .int), (o4, .int)] t ∧ va_D (va_A [(b0, .inr (1, [.int (nI N), .int up, .int ch, .int wr, .int (nI bg), .int (nI (bg + tu)), .ref b1, .int (nI hs), .ref b2, .int (nI ss), .ref b3, .ref b4, .int (nI rc)])), (b1, .inl (o1, 8000, .inl g1)), (b3, .inl (o3, 16000, .inl g3)), (b4, .inl (o4, 4001, .inl g4))] sz) [(b0, .inr (1, [.int (nI N), .int up', .int ch', .int wr', .int (nI bg), .int (nI en'), .ref b1, .int (nI hs'), .ref b2, .int (nI ss), .ref b3, .ref b4, .int (nI rc')])), (b1, .inl (o1, 8000, .inl g1)), (b3, .inl (o3, 16000, .inl f')), (b4, .inl (o4, 4001, .inl f2'))]) (va_A [(b0, .inr (1, [.int (nI N), .int up, .int ch, .int wr, .int (nI bg), .int (nI (bg + tu)), .ref b1, .int (nI hs), .ref b2, .int (nI ss), .ref b3, .ref b4, .int (nI rc)])), (b1, .inl (o1, 8000, .inl g1)), (b3, .inl (o3, 16000, .inl g3)), (b4, .inl (o4, 4001, .inl g4))] sz)) 0 0 (va_A [(b0, .inr (1, [.int (nI N), .int up, .int ch, .int wr, .int (nI bg), .int (nI (bg + tu)), .ref b1, .int (nI hs), .ref b2, .int (nI ss), .ref b3, .ref b4, .int (nI rc)])), (b1, .inl (o1, 8000, .inl g1)), (b3, .inl (o3, 16000, .inl g3)), (b4, .inl (o4, 4001, .inl g4))] sz) := by
  refine Met.ofW (cc := b_BlockDeskModel_record) (maxL := 3) (ret := (some .int)) (by decide) rfl ?_
  intro p e s m args below meth c s₁ B hml hv
  obtain ⟨rfl, hsz, hP, hK, hD0⟩ := hv
  have hx := B.exec
  have hb := B.bytes
  have hr := B.returns
  have hts := atoms_spec (ws := w_BlockDeskModel_record) B.pre
  have hown : s.vm.findClass R_BlockDeskModel = some m.cls := findClass_of_methodNamed B.named
  have hlocks := B.notSynchronized
  subst hsz
  have hD := hD0.self (sz := s.heap.size)
  generalize hAe : va_A [(b0, .inr (1, [.int (nI N), .int up, .int ch, .int wr, .int (nI bg), .int (nI (bg + tu)), .ref b1, .int (nI hs), .ref b2, .int (nI ss), .ref b3, .ref b4, .int (nI rc)])), (b1, .inl (o1, 8000, .inl g1)), (b3, .inl (o3, 16000, .inl g3)), (b4, .inl (o4, 4001, .inl g4))] s.heap.size = A at hD ⊢
  have hA : ∀ q : Nat, s.heap.size ≤ q → A q := fun q h => by rw [← hAe]; exact Or.inr h
  have hS : va_S A s.heap s.heap [] := va_S.rf
  have hP : va_P (dC, dI) classes [(b0, .inr (1, [.int (nI N), .int up, .int ch, .int wr, .int (nI bg), .int (nI (bg + tu)), .ref b1, .int (nI hs), .ref b2, .int (nI ss), .ref b3, .ref b4, .int (nI rc)])), (b1, .inl (o1, 8000, .inl g1)), (b3, .inl (o3, 16000, .inl g3)), (b4, .inl (o4, 4001, .inl g4))] s.heap := hP
  have hin1 : ∀ w ∈ u_ws R_BlockDeskModel F_BlockDeskModel 13, w ∈ w_BlockDeskModel_record := by decide +kernel
  have hl := lv_entry ([.ref b0]) (n := 3) (Nat.le_of_ble_eq_true rfl)
  rw [lg_entry_eq]
  generalize (lg_sl ([.ref b0]) ++ List.replicate (3 - (lg_sl ([.ref b0])).length) Slot.unset).toArray = ls at hl ⊢
  have hl : lv_has ls 3 [(0, .ref b0)] := hl
  refine lv_aload_n hx hb d_BlockDeskModel_record_0 rfl (lv_at hl 0 rfl) ?_
  refine va_get (D := (dC, dI)) (ci := 1) (v := .int (nI (bg + tu))) (C := R_BlockDeskModel) (T := F_BlockDeskModel) (N := 13) hx hb hts hin1 hown hK hP 0 rfl rfl 5 (by decide) (hts (.fieldLink R_BlockDeskModel 43 "BlockDeskModel" "end" "I") (by decide +kernel)) (fun _ h9 => h9) rfl d_BlockDeskModel_record_1 ?_
  refine lv_iconst (v := nI 3) hx hb d_BlockDeskModel_record_4 (by decide +kernel) ?_
  refine lv_iadd hx hb d_BlockDeskModel_record_5 ?_
  refine xq_top (nI (bg + tu + 3)) (nI_add _ _) ?_
  refine lv_aload_n hx hb d_BlockDeskModel_record_6 rfl (lv_at hl 0 rfl) ?_
  refine va_get (D := (dC, dI)) (ci := 1) (v := .int (nI hs)) (C := R_BlockDeskModel) (T := F_BlockDeskModel) (N := 13) hx hb hts hin1 hown hK hP 0 rfl rfl 7 (by decide) (hts (.fieldLink R_BlockDeskModel 33 "BlockDeskModel" "inHand" "I") (by decide +kernel)) (fun _ h9 => h9) rfl d_BlockDeskModel_record_7 ?_
  refine lv_iadd hx hb d_BlockDeskModel_record_10 ?_
  refine xq_top (nI (bg + tu + 3 + hs)) (nI_add _ _) ?_
  refine lv_istore_n (lv' := [(1, .int (nI (bg + tu + 3 + hs))), (0, .ref b0)]) hx hb d_BlockDeskModel_record_11 rfl hl (by decide) rfl (fun ls hl => ?_)
  refine lv_aload_n hx hb d_BlockDeskModel_record_12 rfl (lv_at hl 1 rfl) ?_
  refine va_get (D := (dC, dI)) (ci := 1) (v := .int up) (C := R_BlockDeskModel) (T := F_BlockDeskModel) (N := 13) hx hb hts hin1 hown hK hP 0 rfl rfl 1 (by decide) (hts (.fieldLink R_BlockDeskModel 7 "BlockDeskModel" "up" "Z") (by decide +kernel)) (fun _ h9 => h9) rfl d_BlockDeskModel_record_13 ?_
  refine lv_if_eq (tgt := 40) hx hb d_BlockDeskModel_record_16 (by decide) (fun c_16 => ?_) (fun c_16 => ?_)
  · refine lv_iconst (v := nI 0) hx hb d_BlockDeskModel_record_40 (by decide +kernel) ?_
    have hP9 := hP.sub (ws' := [(b0, .inr (1, [.int (nI N), .int up, .int ch, .int wr, .int (nI bg), .int (nI (bg + tu)), .ref b1, .int (nI hs), .ref b2, .int (nI ss), .ref b3, .ref b4, .int (nI rc)])), (b1, .inl (o1, 8000, .inl g1)), (b3, .inl (o3, 16000, .inl g3)), (b4, .inl (o4, 4001, .inl g4))]) [0, 1, 2, 3] rfl
    have hD9 := hD.sub (ws' := [(b0, .inr (1, [.int (nI N), .int up, .int ch, .int wr, .int (nI bg), .int (nI (bg + tu)), .ref b1, .int (nI hs), .ref b2, .int (nI ss), .ref b3, .ref b4, .int (nI rc)])), (b1, .inl (o1, 8000, .inl g1)), (b3, .inl (o3, 16000, .inl g3)), (b4, .inl (o4, 4001, .inl g4))]) [0, 1, 2, 3] (by decide) rfl
    have hK9 := hK.sub (tys' := [(o1, .int), (o3, .int), (o4, .int)]) [0, 1, 2] rfl
    exact W.iret (v := nI 0) hx hb hr (fun t ht hW => ⟨⟨nI 0, (rc, bg + tu, up, hs, ch, wr, g3, g4), rfl, Or.inl ⟨by first | exact Or.inl c_16 | exact Or.inr (by omega), rfl, rfl⟩, by rw [ht]; exact hP9, va_K.moved hW.alike hK9, hD9⟩, hS.F ht⟩) hS.2.2 d_BlockDeskModel_record_41
  · refine lv_iload_n hx hb d_BlockDeskModel_record_19 rfl (lv_at hl 0 rfl) ?_
    refine lv_sipush (v := nI 500) hx hb d_BlockDeskModel_record_20 (by decide +kernel) ?_
    refine lv_idiv hx hb d_BlockDeskModel_record_23 (by decide +kernel) ?_
    refine xq_top (nI ((bg + tu + 3 + hs) / 500)) (pk_div (by omega) (by omega) (by omega)) ?_
    refine lv_aload_n hx hb d_BlockDeskModel_record_24 rfl (lv_at hl 1 rfl) ?_
    refine va_get (D := (dC, dI)) (ci := 1) (v := .int (nI bg)) (C := R_BlockDeskModel) (T := F_BlockDeskModel) (N := 13) hx hb hts hin1 hown hK hP 0 rfl rfl 4 (by decide) (hts (.fieldLink R_BlockDeskModel 46 "BlockDeskModel" "begin" "I") (by decide +kernel)) (fun _ h9 => h9) rfl d_BlockDeskModel_record_25 ?_
    refine lv_sipush (v := nI 500) hx hb d_BlockDeskModel_record_28 (by decide +kernel) ?_
    refine lv_idiv hx hb d_BlockDeskModel_record_31 (by decide +kernel) ?_
    refine xq_top (nI (bg / 500)) (pk_div (by omega) (by omega) (by omega)) ?_
    refine lv_isub hx hb d_BlockDeskModel_record_32 ?_
    refine xq_top (nI ((bg + tu + 3 + hs) / 500 - (bg / 500))) (pk_sub (by omega)) ?_
    refine lv_aload_n hx hb d_BlockDeskModel_record_33 rfl (lv_at hl 1 rfl) ?_
    refine va_get (D := (dC, dI)) (ci := 1) (v := .int (nI N)) (C := R_BlockDeskModel) (T := F_BlockDeskModel) (N := 13) hx hb hts hin1 hown hK hP 0 rfl rfl 0 (by decide) (hts (.fieldLink R_BlockDeskModel 30 "BlockDeskModel" "blocks" "I") (by decide +kernel)) (fun _ h9 => h9) rfl d_BlockDeskModel_record_34 ?_
    refine lv_icmp_lt (tgt := 42) hx hb d_BlockDeskModel_record_37 (by decide) (fun c_37 => ?_) (fun c_37 => ?_)
    · have c_37 : (bg + tu + 3 + hs) / 500 - (bg / 500) < N := (nI_ltI (by omega) (by omega)).mp c_37
      refine lv_aload_n hx hb d_BlockDeskModel_record_42 rfl (lv_at hl 1 rfl) ?_
      refine lv_iload_n hx hb d_BlockDeskModel_record_43 rfl (lv_at hl 0 rfl) ?_
      refine lv_sipush (v := nI 500) hx hb d_BlockDeskModel_record_44 (by decide +kernel) ?_
      refine lv_idiv hx hb d_BlockDeskModel_record_47 (by decide +kernel) ?_
      refine xq_top (nI ((bg + tu + 3 + hs) / 500)) (pk_div (by omega) (by omega) (by omega)) ?_
      refine lv_aload_n hx hb d_BlockDeskModel_record_48 rfl (lv_at hl 1 rfl) ?_
      refine va_get (D := (dC, dI)) (ci := 1) (v := .int (nI (bg + tu))) (C := R_BlockDeskModel) (T := F_BlockDeskModel) (N := 13) hx hb hts hin1 hown hK hP 0 rfl rfl 5 (by decide) (hts (.fieldLink R_BlockDeskModel 43 "BlockDeskModel" "end" "I") (by decide +kernel)) (fun _ h9 => h9) rfl d_BlockDeskModel_record_49 ?_
      refine lv_sipush (v := nI 500) hx hb d_BlockDeskModel_record_52 (by decide +kernel) ?_
      refine lv_idiv hx hb d_BlockDeskModel_record_55 (by decide +kernel) ?_
      refine xq_top (nI ((bg + tu) / 500)) (pk_div (by omega) (by omega) (by omega)) ?_
      refine lv_isub hx hb d_BlockDeskModel_record_56 ?_
      refine xq_top (nI ((bg + tu + 3 + hs) / 500 - ((bg + tu) / 500))) (pk_sub (by omega)) ?_
      refine lv_iconst (v := nI 1) hx hb d_BlockDeskModel_record_57 (by decide +kernel) ?_
      refine lv_iadd hx hb d_BlockDeskModel_record_58 ?_
      refine xq_top (nI ((bg + tu + 3 + hs) / 500 - ((bg + tu) / 500) + 1)) (nI_add _ _) ?_
      refine xq_top (nI ((tu + 4 + hs - 1) / 500 - (tu / 500) + 1)) (congrArg nI (by omega)) ?_
      have hPc := hP.sub (ws' := [(b0, .inr (1, [.int (nI N), .int up, .int ch, .int wr, .int (nI bg), .int (nI (bg + tu)), .ref b1, .int (nI hs), .ref b2, .int (nI ss), .ref b3, .ref b4, .int (nI rc)]))]) [0] rfl
      have hDc := hD.sub (ws' := [(b0, .inr (1, [.int (nI N), .int up, .int ch, .int wr, .int (nI bg), .int (nI (bg + tu)), .ref b1, .int (nI hs), .ref b2, .int (nI ss), .ref b3, .ref b4, .int (nI rc)]))]) [0] (by decide) rfl
      have hKc := hK.sub (tys' := []) [] rfl
      have hFc := va_free (wc := [(b0, .inr (1, [.int (nI N), .int up, .int ch, .int wr, .int (nI bg), .int (nI (bg + tu)), .ref b1, .int (nI hs), .ref b2, .int (nI ss), .ref b3, .ref b4, .int (nI rc)]))]) hD hS hA [0] rfl
      refine va_calli (va_runV (As := [.int (nI ((tu + 4 + hs - 1) / 500 - (tu / 500) + 1))]) (rest := []) ⟨hx, hb, hml, hown, hts⟩ (c_BlockDeskModel_write l dC dI s.heap.size b0 b1 b2 b3 b4 N rc bg (bg + tu) ss hs up ch wr (nI ((tu + 4 + hs - 1) / 500 - (tu / 500) + 1)) hch) (cwV 1 hts g_BlockDeskModel_record_BlockDeskModel_write rfl rfl rfl (by decide +kernel) ⟨Nat.le_of_ble_eq_true rfl, Nat.le_of_ble_eq_true rfl⟩) ⟨fun a U g mk q => by obtain ⟨q0, q1, qP, qK, qD⟩ := q; exact ⟨q0, q1, qP, va_K.moved (u := U) (U := U.calling g mk a) (Vm.Alike.refl U.vm) qK, qD⟩, va_recv hKc hPc (ci := 1) (q0 := 0) rfl rfl, fun U hU hW => ⟨rfl, by rw [hU], by rw [hU]; exact hPc, va_K.moved hW.alike hKc, hDc.weaken (fun _ _ _ _ => trivial)⟩⟩ rfl rfl hl.1 rfl (lv_room (Nat.le_of_ble_eq_true rfl)) d_BlockDeskModel_record_59 ⟨(Nat.zero_le _), (Nat.zero_le _)⟩) hS (fun q _ h => hFc q h) hFc (fun r_59 u t H1 locs ht hvm hw hB hz1 hk1 hS => ?_)
      obtain ⟨up1, hs1, ch1, wr1⟩ := u
      obtain ⟨hP1, hK1, hD1⟩ := hB
      rw [ht] at hP1
      try dsimp only at hw
      obtain ⟨hP, hD⟩ := va_join (wr := [(b1, .inl (o1, 8000, .inl g1)), (b3, .inl (o3, 16000, .inl g3)), (b4, .inl (o4, 4001, .inl g4))]) (w1 := [(b0, .inr (1, [.int (nI N), .int up1, .int ch1, .int wr1, .int (nI bg), .int (nI (bg + tu)), .ref b1, .int (nI hs1), .ref b2, .int (nI ss), .ref b3, .ref b4, .int (nI rc)]))]) hP hD [0] [1, 2, 3] rfl rfl (by decide) (by decide) hk1 hFc hP1 hD1
      generalize H1 = H at hP hS ⊢
      have hP : va_P (dC, dI) classes [(b1, .inl (o1, 8000, .inl g1)), (b3, .inl (o3, 16000, .inl g3)), (b4, .inl (o4, 4001, .inl g4)), (b0, .inr (1, [.int (nI N), .int up1, .int ch1, .int wr1, .int (nI bg), .int (nI (bg + tu)), .ref b1, .int (nI hs1), .ref b2, .int (nI ss), .ref b3, .ref b4, .int (nI rc)]))] H := hP
      have hD : va_D A [(b1, .inl (o1, 8000, .inl g1)), (b3, .inl (o3, 16000, .inl g3)), (b4, .inl (o4, 4001, .inl g4)), (b0, .inr (1, [.int (nI N), .int up1, .int ch1, .int wr1, .int (nI bg), .int (nI (bg + tu)), .ref b1, .int (nI hs1), .ref b2, .int (nI ss), .ref b3, .ref b4, .int (nI rc)]))] := hD
      rcases zq_wb_split hw with ⟨rfl, hw⟩ | ⟨rfl, hw⟩
      · have h8 : True := trivial
        refine lv_if_ne (tgt := 67) hx hb d_BlockDeskModel_record_62 (by decide) (fun c_62 => ?_) (fun c_62 => ?_)
        · exact absurd rfl c_62
        · refine lv_iconst (v := nI 2) hx hb d_BlockDeskModel_record_65 (by decide +kernel) ?_
          have hP9 := hP.sub (ws' := [(b0, .inr (1, [.int (nI N), .int up1, .int ch1, .int wr1, .int (nI bg), .int (nI (bg + tu)), .ref b1, .int (nI hs1), .ref b2, .int (nI ss), .ref b3, .ref b4, .int (nI rc)])), (b1, .inl (o1, 8000, .inl g1)), (b3, .inl (o3, 16000, .inl g3)), (b4, .inl (o4, 4001, .inl g4))]) [3, 0, 1, 2] rfl
          have hD9 := hD.sub (ws' := [(b0, .inr (1, [.int (nI N), .int up1, .int ch1, .int wr1, .int (nI bg), .int (nI (bg + tu)), .ref b1, .int (nI hs1), .ref b2, .int (nI ss), .ref b3, .ref b4, .int (nI rc)])), (b1, .inl (o1, 8000, .inl g1)), (b3, .inl (o3, 16000, .inl g3)), (b4, .inl (o4, 4001, .inl g4))]) [3, 0, 1, 2] (by decide) rfl
          have hK9 := hK.sub (tys' := [(o1, .int), (o3, .int), (o4, .int)]) [0, 1, 2] rfl
          exact W.iret (v := nI 2) hx hb hr (fun t ht hW => ⟨⟨nI 2, (rc, (bg + tu), up1, hs1, ch1, wr1, g3, g4), rfl, Or.inr (Or.inl ⟨c_16, by omega, rfl, up1, hs1, ch1, wr1, hw, rfl⟩), by rw [ht]; exact hP9, va_K.moved hW.alike hK9, hD9⟩, hS.F ht⟩) hS.2.2 d_BlockDeskModel_record_66
      · have h8 : True := trivial
        have e9 : hs = hs1 := by rcases zq_wb_r hw with ⟨q9, -⟩ | ⟨-, -, q9⟩; exact absurd q9.symm zq_01; exact q9.symm
        subst e9
        have hP : va_P (dC, dI) classes [(b1, .inl (o1, 8000, .inl g1)), (b3, .inl (o3, 16000, .inl g3)), (b4, .inl (o4, 4001, .inl g4)), (b0, .inr (1, [.int (nI N), .int up1, .int ch1, .int wr1, .int (nI bg), .int (nI (bg + tu)), .ref b1, .int (nI hs), .ref b2, .int (nI ss), .ref b3, .ref b4, .int (nI rc)]))] H := hP
        have hD : va_D A [(b1, .inl (o1, 8000, .inl g1)), (b3, .inl (o3, 16000, .inl g3)), (b4, .inl (o4, 4001, .inl g4)), (b0, .inr (1, [.int (nI N), .int up1, .int ch1, .int wr1, .int (nI bg), .int (nI (bg + tu)), .ref b1, .int (nI hs), .ref b2, .int (nI ss), .ref b3, .ref b4, .int (nI rc)]))] := hD
        refine lv_if_ne (tgt := 67) hx hb d_BlockDeskModel_record_62 (by decide) (fun c_62 => ?_) (fun c_62 => ?_)
        · refine lv_iconst (v := nI 0) hx hb d_BlockDeskModel_record_67 (by decide +kernel) ?_
          refine lv_istore_n (lv' := [(2, .int (nI 0)), (1, .int (nI (bg + tu + 3 + hs))), (0, .ref b0)]) hx hb d_BlockDeskModel_record_68 rfl hl (by decide) rfl (fun ls hl => ?_)
          refine lp_M_rec (l := l) (meth := meth) hx hb hml hts hown hA b0 b1 b2 b3 b4 N rc bg (bg + tu) ss hs ba (bg + tu + 3 + hs) up1 ch1 wr1 o1 o3 o4 g1 g3 g4 hba (by omega) hhs (by omega) hK (fun f H locs hI hP hD hS ls hl => ?_) hs 0 g3 _ _ (by omega) zq_app_0 (hP.sub [3, 0, 1, 2] rfl) (hD.sub [3, 0, 1, 2] (by decide) rfl) hS ls (lv_sub hl [0, 2, 1] rfl)
          refine lv_aload_n hx hb d_BlockDeskModel_record_105 rfl (lv_at hl 1 rfl) ?_
          refine va_get (D := (dC, dI)) (ci := 1) (v := .ref b4) (C := R_BlockDeskModel) (T := F_BlockDeskModel) (N := 13) hx hb hts hin1 hown hK hP 0 rfl rfl 11 (by decide) (hts (.fieldLink R_BlockDeskModel 27 "BlockDeskModel" "starts" "[I") (by decide +kernel)) (fun _ h9 => h9) rfl d_BlockDeskModel_record_106 ?_
          refine lv_aload_n hx hb d_BlockDeskModel_record_109 rfl (lv_at hl 1 rfl) ?_
          refine va_get (D := (dC, dI)) (ci := 1) (v := .int (nI rc)) (C := R_BlockDeskModel) (T := F_BlockDeskModel) (N := 13) hx hb hts hin1 hown hK hP 0 rfl rfl 12 (by decide) (hts (.fieldLink R_BlockDeskModel 52 "BlockDeskModel" "records" "I") (by decide +kernel)) (fun _ h9 => h9) rfl d_BlockDeskModel_record_110 ?_
          refine lv_iconst (v := nI 1) hx hb d_BlockDeskModel_record_113 (by decide +kernel) ?_
          refine lv_iadd hx hb d_BlockDeskModel_record_114 ?_
          refine xq_top (nI (rc + 1)) (nI_add _ _) ?_
          refine lv_aload_n hx hb d_BlockDeskModel_record_115 rfl (lv_at hl 1 rfl) ?_
          refine va_get (D := (dC, dI)) (ci := 1) (v := .ref b4) (C := R_BlockDeskModel) (T := F_BlockDeskModel) (N := 13) hx hb hts hin1 hown hK hP 0 rfl rfl 11 (by decide) (hts (.fieldLink R_BlockDeskModel 27 "BlockDeskModel" "starts" "[I") (by decide +kernel)) (fun _ h9 => h9) rfl d_BlockDeskModel_record_116 ?_
          refine lv_aload_n hx hb d_BlockDeskModel_record_119 rfl (lv_at hl 1 rfl) ?_
          refine va_get (D := (dC, dI)) (ci := 1) (v := .int (nI rc)) (C := R_BlockDeskModel) (T := F_BlockDeskModel) (N := 13) hx hb hts hin1 hown hK hP 0 rfl rfl 12 (by decide) (hts (.fieldLink R_BlockDeskModel 52 "BlockDeskModel" "records" "I") (by decide +kernel)) (fun _ h9 => h9) rfl d_BlockDeskModel_record_120 ?_
          refine va_iald hx hb hK hP 3 2 rfl rfl (vp_in_nI (by omega) (by omega)) d_BlockDeskModel_record_123 ?_
          refine xq_top (nI ba) (by rw [nI_clamp (by omega)]; exact hba) ?_
          refine lv_aload_n hx hb d_BlockDeskModel_record_124 rfl (lv_at hl 1 rfl) ?_
          refine va_get (D := (dC, dI)) (ci := 1) (v := .int (nI hs)) (C := R_BlockDeskModel) (T := F_BlockDeskModel) (N := 13) hx hb hts hin1 hown hK hP 0 rfl rfl 7 (by decide) (hts (.fieldLink R_BlockDeskModel 33 "BlockDeskModel" "inHand" "I") (by decide +kernel)) (fun _ h9 => h9) rfl d_BlockDeskModel_record_125 ?_
          refine lv_iadd hx hb d_BlockDeskModel_record_128 ?_
          refine xq_top (nI (ba + hs)) (nI_add _ _) ?_
          refine va_iast hx hb hK hP hD hS 3 2 rfl rfl (vp_in_nI (by omega) (by omega)) d_BlockDeskModel_record_129 (fun H locs hP hD hS => ?_)
          rw [nI_clamp (n := rc + 1) (by omega)] at hP hD
          have hP : va_P (dC, dI) classes [(b0, .inr (1, [.int (nI N), .int up1, .int ch1, .int wr1, .int (nI bg), .int (nI (bg + tu)), .ref b1, .int (nI hs), .ref b2, .int (nI ss), .ref b3, .ref b4, .int (nI rc)])), (b1, .inl (o1, 8000, .inl g1)), (b3, .inl (o3, 16000, .inl f)), (b4, .inl (o4, 4001, .inl (upd g4 (rc + 1) (nI (ba + hs)))))] H := hP
          have hD : va_D A [(b0, .inr (1, [.int (nI N), .int up1, .int ch1, .int wr1, .int (nI bg), .int (nI (bg + tu)), .ref b1, .int (nI hs), .ref b2, .int (nI ss), .ref b3, .ref b4, .int (nI rc)])), (b1, .inl (o1, 8000, .inl g1)), (b3, .inl (o3, 16000, .inl f)), (b4, .inl (o4, 4001, .inl (upd g4 (rc + 1) (nI (ba + hs)))))] := hD
          refine lv_aload_n hx hb d_BlockDeskModel_record_130 rfl (lv_at hl 1 rfl) ?_
          refine lv_aload_n hx hb d_BlockDeskModel_record_131 rfl (lv_at hl 1 rfl) ?_
          refine va_get (D := (dC, dI)) (ci := 1) (v := .int (nI rc)) (C := R_BlockDeskModel) (T := F_BlockDeskModel) (N := 13) hx hb hts hin1 hown hK hP 0 rfl rfl 12 (by decide) (hts (.fieldLink R_BlockDeskModel 52 "BlockDeskModel" "records" "I") (by decide +kernel)) (fun _ h9 => h9) rfl d_BlockDeskModel_record_132 ?_
          refine lv_iconst (v := nI 1) hx hb d_BlockDeskModel_record_135 (by decide +kernel) ?_
          refine lv_iadd hx hb d_BlockDeskModel_record_136 ?_
          refine xq_top (nI (rc + 1)) (nI_add _ _) ?_
          refine va_put (D := (dC, dI)) (ci := 1) (v := .int (nI (rc + 1))) (ty := .int) (C := R_BlockDeskModel) (T := F_BlockDeskModel) (N := 13) hx hb hts hin1 t_BlockDeskModel t_BlockDeskModel_ok n_BlockDeskModel hown hK hP hD hS 0 rfl rfl 12 (by decide) (hts (.fieldLink R_BlockDeskModel 52 "BlockDeskModel" "records" "I") (by decide +kernel)) (fun _ h9 => h9) rfl (by decide +kernel) rfl rfl (Nat.le_of_ble_eq_true rfl) d_BlockDeskModel_record_137 (fun H locs hP hD hS => ?_)
          have hP : va_P (dC, dI) classes [(b0, .inr (1, [.int (nI N), .int up1, .int ch1, .int wr1, .int (nI bg), .int (nI (bg + tu)), .ref b1, .int (nI hs), .ref b2, .int (nI ss), .ref b3, .ref b4, .int (nI (rc + 1))])), (b1, .inl (o1, 8000, .inl g1)), (b3, .inl (o3, 16000, .inl f)), (b4, .inl (o4, 4001, .inl (upd g4 (rc + 1) (nI (ba + hs)))))] H := hP
          have hD : va_D A [(b0, .inr (1, [.int (nI N), .int up1, .int ch1, .int wr1, .int (nI bg), .int (nI (bg + tu)), .ref b1, .int (nI hs), .ref b2, .int (nI ss), .ref b3, .ref b4, .int (nI (rc + 1))])), (b1, .inl (o1, 8000, .inl g1)), (b3, .inl (o3, 16000, .inl f)), (b4, .inl (o4, 4001, .inl (upd g4 (rc + 1) (nI (ba + hs)))))] := hD
          refine lv_aload_n hx hb d_BlockDeskModel_record_140 rfl (lv_at hl 1 rfl) ?_
          refine lv_iload_n hx hb d_BlockDeskModel_record_141 rfl (lv_at hl 2 rfl) ?_
          refine lv_iconst (v := nI 1) hx hb d_BlockDeskModel_record_142 (by decide +kernel) ?_
          refine lv_iadd hx hb d_BlockDeskModel_record_143 ?_
          refine xq_top (nI (bg + tu + 3 + hs + 1)) (nI_add _ _) ?_
          refine xq_top (nI (bg + (tu + 4 + hs))) (congrArg nI (by omega)) ?_
          refine va_put (D := (dC, dI)) (ci := 1) (v := .int (nI (bg + (tu + 4 + hs)))) (ty := .int) (C := R_BlockDeskModel) (T := F_BlockDeskModel) (N := 13) hx hb hts hin1 t_BlockDeskModel t_BlockDeskModel_ok n_BlockDeskModel hown hK hP hD hS 0 rfl rfl 5 (by decide) (hts (.fieldLink R_BlockDeskModel 43 "BlockDeskModel" "end" "I") (by decide +kernel)) (fun _ h9 => h9) rfl (by decide +kernel) rfl rfl (Nat.le_of_ble_eq_true rfl) d_BlockDeskModel_record_144 (fun H locs hP hD hS => ?_)
          have hP : va_P (dC, dI) classes [(b0, .inr (1, [.int (nI N), .int up1, .int ch1, .int wr1, .int (nI bg), .int (nI (bg + (tu + 4 + hs))), .ref b1, .int (nI hs), .ref b2, .int (nI ss), .ref b3, .ref b4, .int (nI (rc + 1))])), (b1, .inl (o1, 8000, .inl g1)), (b3, .inl (o3, 16000, .inl f)), (b4, .inl (o4, 4001, .inl (upd g4 (rc + 1) (nI (ba + hs)))))] H := hP
          have hD : va_D A [(b0, .inr (1, [.int (nI N), .int up1, .int ch1, .int wr1, .int (nI bg), .int (nI (bg + (tu + 4 + hs))), .ref b1, .int (nI hs), .ref b2, .int (nI ss), .ref b3, .ref b4, .int (nI (rc + 1))])), (b1, .inl (o1, 8000, .inl g1)), (b3, .inl (o3, 16000, .inl f)), (b4, .inl (o4, 4001, .inl (upd g4 (rc + 1) (nI (ba + hs)))))] := hD
          refine lv_aload_n hx hb d_BlockDeskModel_record_147 rfl (lv_at hl 1 rfl) ?_
          refine lv_iconst (v := nI 0) hx hb d_BlockDeskModel_record_148 (by decide +kernel) ?_
          refine va_put (D := (dC, dI)) (ci := 1) (v := .int (nI 0)) (ty := .int) (C := R_BlockDeskModel) (T := F_BlockDeskModel) (N := 13) hx hb hts hin1 t_BlockDeskModel t_BlockDeskModel_ok n_BlockDeskModel hown hK hP hD hS 0 rfl rfl 7 (by decide) (hts (.fieldLink R_BlockDeskModel 33 "BlockDeskModel" "inHand" "I") (by decide +kernel)) (fun _ h9 => h9) rfl (by decide +kernel) rfl rfl (Nat.le_of_ble_eq_true rfl) d_BlockDeskModel_record_149 (fun H locs hP hD hS => ?_)
          have hP : va_P (dC, dI) classes [(b0, .inr (1, [.int (nI N), .int up1, .int ch1, .int wr1, .int (nI bg), .int (nI (bg + (tu + 4 + hs))), .ref b1, .int (nI 0), .ref b2, .int (nI ss), .ref b3, .ref b4, .int (nI (rc + 1))])), (b1, .inl (o1, 8000, .inl g1)), (b3, .inl (o3, 16000, .inl f)), (b4, .inl (o4, 4001, .inl (upd g4 (rc + 1) (nI (ba + hs)))))] H := hP
          have hD : va_D A [(b0, .inr (1, [.int (nI N), .int up1, .int ch1, .int wr1, .int (nI bg), .int (nI (bg + (tu + 4 + hs))), .ref b1, .int (nI 0), .ref b2, .int (nI ss), .ref b3, .ref b4, .int (nI (rc + 1))])), (b1, .inl (o1, 8000, .inl g1)), (b3, .inl (o3, 16000, .inl f)), (b4, .inl (o4, 4001, .inl (upd g4 (rc + 1) (nI (ba + hs)))))] := hD
          refine lv_iconst (v := nI 1) hx hb d_BlockDeskModel_record_152 (by decide +kernel) ?_
          have hP9 := hP.sub (ws' := [(b0, .inr (1, [.int (nI N), .int up1, .int ch1, .int wr1, .int (nI bg), .int (nI (bg + (tu + 4 + hs))), .ref b1, .int (nI 0), .ref b2, .int (nI ss), .ref b3, .ref b4, .int (nI (rc + 1))])), (b1, .inl (o1, 8000, .inl g1)), (b3, .inl (o3, 16000, .inl f)), (b4, .inl (o4, 4001, .inl (upd g4 (rc + 1) (nI (ba + hs)))))]) [0, 1, 2, 3] rfl
          have hD9 := hD.sub (ws' := [(b0, .inr (1, [.int (nI N), .int up1, .int ch1, .int wr1, .int (nI bg), .int (nI (bg + (tu + 4 + hs))), .ref b1, .int (nI 0), .ref b2, .int (nI ss), .ref b3, .ref b4, .int (nI (rc + 1))])), (b1, .inl (o1, 8000, .inl g1)), (b3, .inl (o3, 16000, .inl f)), (b4, .inl (o4, 4001, .inl (upd g4 (rc + 1) (nI (ba + hs)))))]) [0, 1, 2, 3] (by decide) rfl
          have hK9 := hK.sub (tys' := [(o1, .int), (o3, .int), (o4, .int)]) [0, 1, 2] rfl
          exact W.iret (v := nI 1) hx hb hr (fun t ht hW => ⟨⟨nI 1, (rc + 1, bg + (tu + 4 + hs), up1, 0, ch1, wr1, f, upd g4 (rc + 1) (nI (ba + hs))), rfl, Or.inr (Or.inr ⟨c_16, by omega, rfl, up1, ch1, wr1, f, hw, hI, rfl⟩), by rw [ht]; exact hP9, va_K.moved hW.alike hK9, hD9⟩, hS.F ht⟩) hS.2.2 d_BlockDeskModel_record_153
        · exact absurd c_62 (xq_n0 (by omega) (by omega))
    · have c_37 : ¬ ((bg + tu + 3 + hs) / 500 - (bg / 500) < N) := fun h9 => c_37 ((nI_ltI (by omega) (by omega)).mpr h9)
      refine lv_iconst (v := nI 0) hx hb d_BlockDeskModel_record_40 (by decide +kernel) ?_
      have hP9 := hP.sub (ws' := [(b0, .inr (1, [.int (nI N), .int up, .int ch, .int wr, .int (nI bg), .int (nI (bg + tu)), .ref b1, .int (nI hs), .ref b2, .int (nI ss), .ref b3, .ref b4, .int (nI rc)])), (b1, .inl (o1, 8000, .inl g1)), (b3, .inl (o3, 16000, .inl g3)), (b4, .inl (o4, 4001, .inl g4))]) [0, 1, 2, 3] rfl
      have hD9 := hD.sub (ws' := [(b0, .inr (1, [.int (nI N), .int up, .int ch, .int wr, .int (nI bg), .int (nI (bg + tu)), .ref b1, .int (nI hs), .ref b2, .int (nI ss), .ref b3, .ref b4, .int (nI rc)])), (b1, .inl (o1, 8000, .inl g1)), (b3, .inl (o3, 16000, .inl g3)), (b4, .inl (o4, 4001, .inl g4))]) [0, 1, 2, 3] (by decide) rfl
      have hK9 := hK.sub (tys' := [(o1, .int), (o3, .int), (o4, .int)]) [0, 1, 2] rfl
      exact W.iret (v := nI 0) hx hb hr (fun t ht hW => ⟨⟨nI 0, (rc, bg + tu, up, hs, ch, wr, g3, g4), rfl, Or.inl ⟨by first | exact Or.inl c_16 | exact Or.inr (by omega), rfl, rfl⟩, by rw [ht]; exact hP9, va_K.moved hW.alike hK9, hD9⟩, hS.F ht⟩) hS.2.2 d_BlockDeskModel_record_41
set_option maxHeartbeats 4000000 in
set_option maxRecDepth 100000 in
theorem lp_M_sn {p : Program} {l : Launch} {e : Env} {s : State} {m : MethodId} {args : Array Value} {below : List Frame} {meth : Method} {c : Code} {Q : State → Prop} {A : Nat → Prop} {dC : Nat → ClassId} {dI : Nat → Nat → Nat} (hx : p.tables.exec = Jvm.exec) (hb : c.code = b_BlockDeskModel_snapshot) (hml : c.maxLocals = 2) (hts : ∀ w ∈ w_BlockDeskModel_snapshot, w.before args s = true) (hown : s.vm.findClass R_BlockDeskModel = some m.cls) (hA : ∀ q : Nat, s.heap.size ≤ q → A q) (b0 : Nat) (b1 : Nat) (b2 : Nat) (b3 : Nat) (b4 : Nat) (N : Nat) (rc : Nat) (bg : Nat) (en : Nat) (ss : Nat) (hs : Nat) (up : Int32) (ch : Int32) (wr : Int32) (o1 : ClassId) (o2 : ClassId) (g1 : Nat → Int32) (g2 : Nat → Int32) (hhs : hs ≤ 8000) (hK : va_K (dC, dI) classes [(o1, .int), (o2, .int)] s) (KK : ∀ (f : Nat → Int32) (H : Heap) (locs : List Loc), zq_app g2 f 0 hs g1 → va_P (dC, dI) classes [(b0, .inr (1, [.int (nI N), .int up, .int ch, .int wr, .int (nI bg), .int (nI en), .ref b1, .int (nI hs), .ref b2, .int (nI ss), .ref b3, .ref b4, .int (nI rc)])), (b1, .inl (o1, 8000, .inl g1)), (b2, .inl (o2, 8000, .inl f))] H → va_D A [(b0, .inr (1, [.int (nI N), .int up, .int ch, .int wr, .int (nI bg), .int (nI en), .ref b1, .int (nI hs), .ref b2, .int (nI ss), .ref b3, .ref b4, .int (nI rc)])), (b1, .inl (o1, 8000, .inl g1)), (b2, .inl (o2, 8000, .inl f))] → va_S A s.heap H locs → ∀ ls : Array Slot, lv_has ls 2 [(1, .int (nI hs)), (0, .ref b0)] → W p l e ({ frames := 1, cells := 0, slots := 0, locals := 22 } : Room) s m args below meth c H locs 0 0 Q (F0 m 60 ls [])) : ∀ (n d : Nat) (f : Nat → Int32) (H : Heap) (locs : List Loc), d + n = hs → zq_app g2 f 0 d g1 → va_P (dC, dI) classes [(b0, .inr (1, [.int (nI N), .int up, .int ch, .int wr, .int (nI bg), .int (nI en), .ref b1, .int (nI hs), .ref b2, .int (nI ss), .ref b3, .ref b4, .int (nI rc)])), (b1, .inl (o1, 8000, .inl g1)), (b2, .inl (o2, 8000, .inl f))] H → va_D A [(b0, .inr (1, [.int (nI N), .int up, .int ch, .int wr, .int (nI bg), .int (nI en), .ref b1, .int (nI hs), .ref b2, .int (nI ss), .ref b3, .ref b4, .int (nI rc)])), (b1, .inl (o1, 8000, .inl g1)), (b2, .inl (o2, 8000, .inl f))] → va_S A s.heap H locs → ∀ ls : Array Slot, lv_has ls 2 [(1, .int (nI d)), (0, .ref b0)] → W p l e ({ frames := 1, cells := 0, slots := 0, locals := 22 } : Room) s m args below meth c H locs 0 0 Q (F0 m 34 ls []) := by
  have hin1 : ∀ w ∈ u_ws R_BlockDeskModel F_BlockDeskModel 13, w ∈ w_BlockDeskModel_snapshot := by decide +kernel
  intro n
  induction n with
  | zero =>
    intro d f H locs hdn hI hP hD hS ls hl
    have hdn : hs = d := by omega
    subst hdn
    have hl : lv_has ls 2 [(1, .int (nI hs)), (0, .ref b0)] := hl
    refine lv_iload_n hx hb d_BlockDeskModel_snapshot_34 rfl (lv_at hl 0 rfl) ?_
    refine lv_aload_n hx hb d_BlockDeskModel_snapshot_35 rfl (lv_at hl 1 rfl) ?_
    refine va_get (D := (dC, dI)) (ci := 1) (v := .int (nI hs)) (C := R_BlockDeskModel) (T := F_BlockDeskModel) (N := 13) hx hb hts hin1 hown hK hP 0 rfl rfl 7 (by decide) (hts (.fieldLink R_BlockDeskModel 33 "BlockDeskModel" "inHand" "I") (by decide +kernel)) (fun _ h9 => h9) rfl d_BlockDeskModel_snapshot_36 ?_
    refine lv_icmp_ge (tgt := 60) hx hb d_BlockDeskModel_snapshot_39 (by decide) (fun c_39 => ?_) (fun c_39 => ?_)
    · have c_39 : hs ≤ hs := (nI_leI (by omega) (by omega)).mp c_39
      exact KK f _ _ hI (hP.sub [0, 1, 2] rfl) (hD.sub [0, 1, 2] (by decide) rfl) hS ls (lv_sub hl [0, 1] rfl)
    · have c_39 : ¬ (hs ≤ hs) := fun h9 => c_39 ((nI_leI (by omega) (by omega)).mpr h9)
      exact absurd (by omega) c_39
  | succ n ih =>
    intro d f H locs hdn hI hP hD hS ls hl
    have hl : lv_has ls 2 [(1, .int (nI d)), (0, .ref b0)] := hl
    refine lv_iload_n hx hb d_BlockDeskModel_snapshot_34 rfl (lv_at hl 0 rfl) ?_
    refine lv_aload_n hx hb d_BlockDeskModel_snapshot_35 rfl (lv_at hl 1 rfl) ?_
    refine va_get (D := (dC, dI)) (ci := 1) (v := .int (nI hs)) (C := R_BlockDeskModel) (T := F_BlockDeskModel) (N := 13) hx hb hts hin1 hown hK hP 0 rfl rfl 7 (by decide) (hts (.fieldLink R_BlockDeskModel 33 "BlockDeskModel" "inHand" "I") (by decide +kernel)) (fun _ h9 => h9) rfl d_BlockDeskModel_snapshot_36 ?_
    refine lv_icmp_ge (tgt := 60) hx hb d_BlockDeskModel_snapshot_39 (by decide) (fun c_39 => ?_) (fun c_39 => ?_)
    · have c_39 : hs ≤ d := (nI_leI (by omega) (by omega)).mp c_39
      exact absurd c_39 (by omega)
    · have c_39 : ¬ (hs ≤ d) := fun h9 => c_39 ((nI_leI (by omega) (by omega)).mpr h9)
      refine lv_aload_n hx hb d_BlockDeskModel_snapshot_42 rfl (lv_at hl 1 rfl) ?_
      refine va_get (D := (dC, dI)) (ci := 1) (v := .ref b2) (C := R_BlockDeskModel) (T := F_BlockDeskModel) (N := 13) hx hb hts hin1 hown hK hP 0 rfl rfl 8 (by decide) (hts (.fieldLink R_BlockDeskModel 21 "BlockDeskModel" "shot" "[I") (by decide +kernel)) (fun _ h9 => h9) rfl d_BlockDeskModel_snapshot_43 ?_
      refine lv_iload_n hx hb d_BlockDeskModel_snapshot_46 rfl (lv_at hl 0 rfl) ?_
      refine lv_aload_n hx hb d_BlockDeskModel_snapshot_47 rfl (lv_at hl 1 rfl) ?_
      refine va_get (D := (dC, dI)) (ci := 1) (v := .ref b1) (C := R_BlockDeskModel) (T := F_BlockDeskModel) (N := 13) hx hb hts hin1 hown hK hP 0 rfl rfl 6 (by decide) (hts (.fieldLink R_BlockDeskModel 17 "BlockDeskModel" "hand" "[I") (by decide +kernel)) (fun _ h9 => h9) rfl d_BlockDeskModel_snapshot_48 ?_
      refine lv_iload_n hx hb d_BlockDeskModel_snapshot_51 rfl (lv_at hl 0 rfl) ?_
      refine va_iald hx hb hK hP 1 0 rfl rfl (vp_in_nI (by omega) (by omega)) d_BlockDeskModel_snapshot_52 ?_
      refine xq_top (g1 d) (by rw [nI_clamp (by omega)]) ?_
      refine va_iast hx hb hK hP hD hS 2 1 rfl rfl (vp_in_nI (by omega) (by omega)) d_BlockDeskModel_snapshot_53 (fun H locs hP hD hS => ?_)
      rw [nI_clamp (n := d) (by omega)] at hP hD
      have hP : va_P (dC, dI) classes [(b0, .inr (1, [.int (nI N), .int up, .int ch, .int wr, .int (nI bg), .int (nI en), .ref b1, .int (nI hs), .ref b2, .int (nI ss), .ref b3, .ref b4, .int (nI rc)])), (b1, .inl (o1, 8000, .inl g1)), (b2, .inl (o2, 8000, .inl (upd f d (g1 d))))] H := hP
      have hD : va_D A [(b0, .inr (1, [.int (nI N), .int up, .int ch, .int wr, .int (nI bg), .int (nI en), .ref b1, .int (nI hs), .ref b2, .int (nI ss), .ref b3, .ref b4, .int (nI rc)])), (b1, .inl (o1, 8000, .inl g1)), (b2, .inl (o2, 8000, .inl (upd f d (g1 d))))] := hD
      refine lv_iinc (v := nI (d + 1)) (lv' := [(1, .int (nI (d + 1))), (0, .ref b0)]) hx hb d_BlockDeskModel_snapshot_54 hl (k := 0) rfl (show nI d + nI 1 = nI (d + 1) from nI_add _ _) (by decide) rfl (fun ls hl => ?_)
      refine lv_goto (tgt := 34) hx hb d_BlockDeskModel_snapshot_57 (by decide) ?_
      exact ih (d + 1) _ _ _ (by omega) (by have h9 := zq_app_s (v := g1 d) hI rfl; rw [Nat.zero_add] at h9; exact h9) (hP.sub [0, 1, 2] rfl) (hD.sub [0, 1, 2] (by decide) rfl) hS ls (lv_sub hl [0, 1] rfl)
set_option maxHeartbeats 4000000 in
set_option maxRecDepth 100000 in
theorem c_BlockDeskModel_snapshot (l : Launch) (dC : Nat → ClassId) (dI : Nat → Nat → Nat) (sz : Nat) (b0 : Nat) (b1 : Nat) (b2 : Nat) (b3 : Nat) (b4 : Nat) (N : Nat) (rc : Nat) (bg : Nat) (ss : Nat) (hs : Nat) (up : Int32) (ch : Int32) (wr : Int32) (o1 : ClassId) (o2 : ClassId) (tu : Nat) (qq : Nat) (g1 : Nat → Int32) (g2 : Nat → Int32) (hch : zq_chok ch) (hrb : rc ≤ 4000) (htb : tu ≤ 16000) (h4 : 4 * rc ≤ tu) (h0 : rc = 0 → tu = 0) (hhs : hs ≤ 8000) (hbg : bg = 500 * qq) (hbb : bg ≤ 100000000) : Met l y_BlockDeskModel_snapshot w_BlockDeskModel_snapshot ({ frames := 1, cells := 0, slots := 0, locals := 22 }) (va_Pc [.ref b0] (fun U => U.heap.size = sz ∧ va_P (dC, dI) classes [(b0, .inr (1, [.int (nI N), .int up, .int ch, .int wr, .int (nI bg), .int (nI (bg + tu)), .ref b1, .int (nI hs), .ref b2, .int (nI ss), .ref b3, .ref b4, .int (nI rc)])), (b1, .inl (o1, 8000, .inl g1)), (b2, .inl (o2, 8000, .inl g2))] U.heap ∧ va_K (dC, dI) classes [(o1, .int), (o2, .int)] U ∧ va_D (fun _ => True) [(b0, .inr (1, [.int (nI N), .int up, .int ch, .int wr, .int (nI bg), .int (nI (bg + tu)), .ref b1, .int (nI hs), .ref b2, .int (nI ss), .ref b3, .ref b4, .int (nI rc)])), (b1, .inl (o1, 8000, .inl g1)), (b2, .inl (o2, 8000, .inl g2))])) (va_Qi (fun (r : Int32) (u : Nat × Nat × Nat × Nat × Int32 × Nat × Int32 × Int32 × (Nat → Int32)) => (up = 0 ∧ r = nI 0 ∧ u = (rc, bg, bg + tu, ss, up, hs, ch, wr, g2)) ∨ (¬ up = 0 ∧ r = nI 2 ∧ ∃ (up1 : Int32) (hs1 : Nat) (ch1 wr1 : Int32), (nI 0, up1, hs1, ch1, wr1) = zq_wb up hs ch wr (nI ((hs + 500 - 1) / 500 + 1)) ∧ u = (rc, bg, bg + tu, ss, up1, hs1, ch1, wr1, g2)) ∨ (¬ up = 0 ∧ r = nI 1 ∧ ∃ (up1 ch1 wr1 : Int32) (fx : Nat → Int32), (nI 1, up1, hs, ch1, wr1) = zq_wb up hs ch wr (nI ((hs + 500 - 1) / 500 + 1)) ∧ zq_app g2 fx 0 hs g1 ∧ u = (0, bg + (tu + 500 - 1) / 500 * 500, bg + (tu + 500 - 1) / 500 * 500, hs, up1, 0, ch1, wr1, fx))) (fun (u : Nat × Nat × Nat × Nat × Int32 × Nat × Int32 × Int32 × (Nat → Int32)) (t : State) => match u with | (rc', bg', en', ss', up', hs', ch', wr', f') => va_P (dC, dI) classes [(b0, .inr (1, [.int (nI N), .int up', .int ch', .int wr', .int (nI bg'), .int (nI en'), .ref b1, .int (nI hs'), .ref b2, .int (nI ss'), .ref b3, .ref b4, .int (nI rc')])), (b1, .inl (o1, 8000, .inl g1)), (b2, .inl (o2, 8000, .inl f'))] t.heap ∧ va_K (dC, dI) classes [(o1, .int), (o2, .int)] t ∧ va_D (va_A [(b0, .inr (1, [.int (nI N), .int up, .int ch, .int wr, .int (nI bg), .int (nI (bg + tu)), .ref b1, .int (nI hs), .ref b2, .int (nI ss), .ref b3, .ref b4, .int (nI rc)])), (b1, .inl (o1, 8000, .inl g1)), (b2, .inl (o2, 8000, .inl g2))] sz) [(b0, .inr (1, [.int (nI N), .int up', .int ch', .int wr', .int (nI bg'), .int (nI en'), .ref b1, .int (nI hs'), .ref b2, .int (nI ss'), .ref b3, .ref b4, .int (nI rc')])), (b1, .inl (o1, 8000, .inl g1)), (b2, .inl (o2, 8000, .inl f'))]) (va_A [(b0, .inr (1, [.int (nI N), .int up, .int ch, .int wr, .int (nI bg), .int (nI (bg + tu)), .ref b1, .int (nI hs), .ref b2, .int (nI ss), .ref b3, .ref b4, .int (nI rc)])), (b1, .inl (o1, 8000, .inl g1)), (b2, .inl (o2, 8000, .inl g2))] sz)) 0 0 (va_A [(b0, .inr (1, [.int (nI N), .int up, .int ch, .int wr, .int (nI bg), .int (nI (bg + tu)), .ref b1, .int (nI hs), .ref b2, .int (nI ss), .ref b3, .ref b4, .int (nI rc)])), (b1, .inl (o1, 8000, .inl g1)), (b2, .inl (o2, 8000, .inl g2))] sz) := by
  refine Met.ofW (cc := b_BlockDeskModel_snapshot) (maxL := 2) (ret := (some .int)) (by decide) rfl ?_
  intro p e s m args below meth c s₁ B hml hv
  obtain ⟨rfl, hsz, hP, hK, hD0⟩ := hv
  have hx := B.exec
  have hb := B.bytes
  have hr := B.returns
  have hts := atoms_spec (ws := w_BlockDeskModel_snapshot) B.pre
  have hown : s.vm.findClass R_BlockDeskModel = some m.cls := findClass_of_methodNamed B.named
  have hlocks := B.notSynchronized
  subst hsz
  have hD := hD0.self (sz := s.heap.size)
  generalize hAe : va_A [(b0, .inr (1, [.int (nI N), .int up, .int ch, .int wr, .int (nI bg), .int (nI (bg + tu)), .ref b1, .int (nI hs), .ref b2, .int (nI ss), .ref b3, .ref b4, .int (nI rc)])), (b1, .inl (o1, 8000, .inl g1)), (b2, .inl (o2, 8000, .inl g2))] s.heap.size = A at hD ⊢
  have hA : ∀ q : Nat, s.heap.size ≤ q → A q := fun q h => by rw [← hAe]; exact Or.inr h
  have hS : va_S A s.heap s.heap [] := va_S.rf
  have hP : va_P (dC, dI) classes [(b0, .inr (1, [.int (nI N), .int up, .int ch, .int wr, .int (nI bg), .int (nI (bg + tu)), .ref b1, .int (nI hs), .ref b2, .int (nI ss), .ref b3, .ref b4, .int (nI rc)])), (b1, .inl (o1, 8000, .inl g1)), (b2, .inl (o2, 8000, .inl g2))] s.heap := hP
  have hin1 : ∀ w ∈ u_ws R_BlockDeskModel F_BlockDeskModel 13, w ∈ w_BlockDeskModel_snapshot := by decide +kernel
  have hl := lv_entry ([.ref b0]) (n := 2) (Nat.le_of_ble_eq_true rfl)
  rw [lg_entry_eq]
  generalize (lg_sl ([.ref b0]) ++ List.replicate (2 - (lg_sl ([.ref b0])).length) Slot.unset).toArray = ls at hl ⊢
  have hl : lv_has ls 2 [(0, .ref b0)] := hl
  refine lv_aload_n hx hb d_BlockDeskModel_snapshot_0 rfl (lv_at hl 0 rfl) ?_
  refine va_get (D := (dC, dI)) (ci := 1) (v := .int up) (C := R_BlockDeskModel) (T := F_BlockDeskModel) (N := 13) hx hb hts hin1 hown hK hP 0 rfl rfl 1 (by decide) (hts (.fieldLink R_BlockDeskModel 7 "BlockDeskModel" "up" "Z") (by decide +kernel)) (fun _ h9 => h9) rfl d_BlockDeskModel_snapshot_1 ?_
  refine lv_if_ne (tgt := 9) hx hb d_BlockDeskModel_snapshot_4 (by decide) (fun c_4 => ?_) (fun c_4 => ?_)
  · refine lv_aload_n hx hb d_BlockDeskModel_snapshot_9 rfl (lv_at hl 0 rfl) ?_
    refine lv_aload_n hx hb d_BlockDeskModel_snapshot_10 rfl (lv_at hl 0 rfl) ?_
    refine va_get (D := (dC, dI)) (ci := 1) (v := .int (nI hs)) (C := R_BlockDeskModel) (T := F_BlockDeskModel) (N := 13) hx hb hts hin1 hown hK hP 0 rfl rfl 7 (by decide) (hts (.fieldLink R_BlockDeskModel 33 "BlockDeskModel" "inHand" "I") (by decide +kernel)) (fun _ h9 => h9) rfl d_BlockDeskModel_snapshot_11 ?_
    refine lv_sipush (v := nI 499) hx hb d_BlockDeskModel_snapshot_14 (by decide +kernel) ?_
    refine lv_iadd hx hb d_BlockDeskModel_snapshot_17 ?_
    refine xq_top (nI (hs + 499)) (nI_add _ _) ?_
    refine lv_sipush (v := nI 500) hx hb d_BlockDeskModel_snapshot_18 (by decide +kernel) ?_
    refine lv_idiv hx hb d_BlockDeskModel_snapshot_21 (by decide +kernel) ?_
    refine xq_top (nI ((hs + 499) / 500)) (pk_div (by omega) (by omega) (by omega)) ?_
    refine lv_iconst (v := nI 1) hx hb d_BlockDeskModel_snapshot_22 (by decide +kernel) ?_
    refine lv_iadd hx hb d_BlockDeskModel_snapshot_23 ?_
    refine xq_top (nI ((hs + 499) / 500 + 1)) (nI_add _ _) ?_
    refine xq_top (nI ((hs + 500 - 1) / 500 + 1)) (congrArg nI (by omega)) ?_
    have hPc := hP.sub (ws' := [(b0, .inr (1, [.int (nI N), .int up, .int ch, .int wr, .int (nI bg), .int (nI (bg + tu)), .ref b1, .int (nI hs), .ref b2, .int (nI ss), .ref b3, .ref b4, .int (nI rc)]))]) [0] rfl
    have hDc := hD.sub (ws' := [(b0, .inr (1, [.int (nI N), .int up, .int ch, .int wr, .int (nI bg), .int (nI (bg + tu)), .ref b1, .int (nI hs), .ref b2, .int (nI ss), .ref b3, .ref b4, .int (nI rc)]))]) [0] (by decide) rfl
    have hKc := hK.sub (tys' := []) [] rfl
    have hFc := va_free (wc := [(b0, .inr (1, [.int (nI N), .int up, .int ch, .int wr, .int (nI bg), .int (nI (bg + tu)), .ref b1, .int (nI hs), .ref b2, .int (nI ss), .ref b3, .ref b4, .int (nI rc)]))]) hD hS hA [0] rfl
    refine va_calli (va_runV (As := [.int (nI ((hs + 500 - 1) / 500 + 1))]) (rest := []) ⟨hx, hb, hml, hown, hts⟩ (c_BlockDeskModel_write l dC dI s.heap.size b0 b1 b2 b3 b4 N rc bg (bg + tu) ss hs up ch wr (nI ((hs + 500 - 1) / 500 + 1)) hch) (cwV 1 hts g_BlockDeskModel_snapshot_BlockDeskModel_write rfl rfl rfl (by decide +kernel) ⟨Nat.le_of_ble_eq_true rfl, Nat.le_of_ble_eq_true rfl⟩) ⟨fun a U g mk q => by obtain ⟨q0, q1, qP, qK, qD⟩ := q; exact ⟨q0, q1, qP, va_K.moved (u := U) (U := U.calling g mk a) (Vm.Alike.refl U.vm) qK, qD⟩, va_recv hKc hPc (ci := 1) (q0 := 0) rfl rfl, fun U hU hW => ⟨rfl, by rw [hU], by rw [hU]; exact hPc, va_K.moved hW.alike hKc, hDc.weaken (fun _ _ _ _ => trivial)⟩⟩ rfl rfl hl.1 rfl (lv_room (Nat.le_of_ble_eq_true rfl)) d_BlockDeskModel_snapshot_24 ⟨(Nat.zero_le _), (Nat.zero_le _)⟩) hS (fun q _ h => hFc q h) hFc (fun r_24 u t H1 locs ht hvm hw hB hz1 hk1 hS => ?_)
    obtain ⟨up1, hs1, ch1, wr1⟩ := u
    obtain ⟨hP1, hK1, hD1⟩ := hB
    rw [ht] at hP1
    try dsimp only at hw
    obtain ⟨hP, hD⟩ := va_join (wr := [(b1, .inl (o1, 8000, .inl g1)), (b2, .inl (o2, 8000, .inl g2))]) (w1 := [(b0, .inr (1, [.int (nI N), .int up1, .int ch1, .int wr1, .int (nI bg), .int (nI (bg + tu)), .ref b1, .int (nI hs1), .ref b2, .int (nI ss), .ref b3, .ref b4, .int (nI rc)]))]) hP hD [0] [1, 2] rfl rfl (by decide) (by decide) hk1 hFc hP1 hD1
    generalize H1 = H at hP hS ⊢
    have hP : va_P (dC, dI) classes [(b1, .inl (o1, 8000, .inl g1)), (b2, .inl (o2, 8000, .inl g2)), (b0, .inr (1, [.int (nI N), .int up1, .int ch1, .int wr1, .int (nI bg), .int (nI (bg + tu)), .ref b1, .int (nI hs1), .ref b2, .int (nI ss), .ref b3, .ref b4, .int (nI rc)]))] H := hP
    have hD : va_D A [(b1, .inl (o1, 8000, .inl g1)), (b2, .inl (o2, 8000, .inl g2)), (b0, .inr (1, [.int (nI N), .int up1, .int ch1, .int wr1, .int (nI bg), .int (nI (bg + tu)), .ref b1, .int (nI hs1), .ref b2, .int (nI ss), .ref b3, .ref b4, .int (nI rc)]))] := hD
    rcases zq_wb_split hw with ⟨rfl, hw⟩ | ⟨rfl, hw⟩
    · have h8 : True := trivial
      refine lv_if_ne (tgt := 32) hx hb d_BlockDeskModel_snapshot_27 (by decide) (fun c_27 => ?_) (fun c_27 => ?_)
      · exact absurd rfl c_27
      · refine lv_iconst (v := nI 2) hx hb d_BlockDeskModel_snapshot_30 (by decide +kernel) ?_
        have hP9 := hP.sub (ws' := [(b0, .inr (1, [.int (nI N), .int up1, .int ch1, .int wr1, .int (nI bg), .int (nI (bg + tu)), .ref b1, .int (nI hs1), .ref b2, .int (nI ss), .ref b3, .ref b4, .int (nI rc)])), (b1, .inl (o1, 8000, .inl g1)), (b2, .inl (o2, 8000, .inl g2))]) [2, 0, 1] rfl
        have hD9 := hD.sub (ws' := [(b0, .inr (1, [.int (nI N), .int up1, .int ch1, .int wr1, .int (nI bg), .int (nI (bg + tu)), .ref b1, .int (nI hs1), .ref b2, .int (nI ss), .ref b3, .ref b4, .int (nI rc)])), (b1, .inl (o1, 8000, .inl g1)), (b2, .inl (o2, 8000, .inl g2))]) [2, 0, 1] (by decide) rfl
        have hK9 := hK.sub (tys' := [(o1, .int), (o2, .int)]) [0, 1] rfl
        exact W.iret (v := nI 2) hx hb hr (fun t ht hW => ⟨⟨nI 2, (rc, bg, (bg + tu), ss, up1, hs1, ch1, wr1, g2), rfl, Or.inr (Or.inl ⟨c_4, rfl, up1, hs1, ch1, wr1, hw, rfl⟩), by rw [ht]; exact hP9, va_K.moved hW.alike hK9, hD9⟩, hS.F ht⟩) hS.2.2 d_BlockDeskModel_snapshot_31
    · have h8 : True := trivial
      have e9 : hs = hs1 := by rcases zq_wb_r hw with ⟨q9, -⟩ | ⟨-, -, q9⟩; exact absurd q9.symm zq_01; exact q9.symm
      subst e9
      have hP : va_P (dC, dI) classes [(b1, .inl (o1, 8000, .inl g1)), (b2, .inl (o2, 8000, .inl g2)), (b0, .inr (1, [.int (nI N), .int up1, .int ch1, .int wr1, .int (nI bg), .int (nI (bg + tu)), .ref b1, .int (nI hs), .ref b2, .int (nI ss), .ref b3, .ref b4, .int (nI rc)]))] H := hP
      have hD : va_D A [(b1, .inl (o1, 8000, .inl g1)), (b2, .inl (o2, 8000, .inl g2)), (b0, .inr (1, [.int (nI N), .int up1, .int ch1, .int wr1, .int (nI bg), .int (nI (bg + tu)), .ref b1, .int (nI hs), .ref b2, .int (nI ss), .ref b3, .ref b4, .int (nI rc)]))] := hD
      refine lv_if_ne (tgt := 32) hx hb d_BlockDeskModel_snapshot_27 (by decide) (fun c_27 => ?_) (fun c_27 => ?_)
      · refine lv_iconst (v := nI 0) hx hb d_BlockDeskModel_snapshot_32 (by decide +kernel) ?_
        refine lv_istore_n (lv' := [(1, .int (nI 0)), (0, .ref b0)]) hx hb d_BlockDeskModel_snapshot_33 rfl hl (by decide) rfl (fun ls hl => ?_)
        refine lp_M_sn (l := l) (meth := meth) hx hb hml hts hown hA b0 b1 b2 b3 b4 N rc bg (bg + tu) ss hs up1 ch1 wr1 o1 o2 g1 g2 hhs hK (fun f H locs hI hP hD hS ls hl => ?_) hs 0 g2 _ _ (by omega) zq_app_0 (hP.sub [2, 0, 1] rfl) (hD.sub [2, 0, 1] (by decide) rfl) hS ls (lv_sub hl [0, 1] rfl)
        have h8 : True := trivial
        refine lv_aload_n hx hb d_BlockDeskModel_snapshot_60 rfl (lv_at hl 1 rfl) ?_
        refine lv_aload_n hx hb d_BlockDeskModel_snapshot_61 rfl (lv_at hl 1 rfl) ?_
        refine va_get (D := (dC, dI)) (ci := 1) (v := .int (nI hs)) (C := R_BlockDeskModel) (T := F_BlockDeskModel) (N := 13) hx hb hts hin1 hown hK hP 0 rfl rfl 7 (by decide) (hts (.fieldLink R_BlockDeskModel 33 "BlockDeskModel" "inHand" "I") (by decide +kernel)) (fun _ h9 => h9) rfl d_BlockDeskModel_snapshot_62 ?_
        refine va_put (D := (dC, dI)) (ci := 1) (v := .int (nI hs)) (ty := .int) (C := R_BlockDeskModel) (T := F_BlockDeskModel) (N := 13) hx hb hts hin1 t_BlockDeskModel t_BlockDeskModel_ok n_BlockDeskModel hown hK hP hD hS 0 rfl rfl 9 (by decide) (hts (.fieldLink R_BlockDeskModel 55 "BlockDeskModel" "shotSize" "I") (by decide +kernel)) (fun _ h9 => h9) rfl (by decide +kernel) rfl rfl (Nat.le_of_ble_eq_true rfl) d_BlockDeskModel_snapshot_65 (fun H locs hP hD hS => ?_)
        have hP : va_P (dC, dI) classes [(b0, .inr (1, [.int (nI N), .int up1, .int ch1, .int wr1, .int (nI bg), .int (nI (bg + tu)), .ref b1, .int (nI hs), .ref b2, .int (nI hs), .ref b3, .ref b4, .int (nI rc)])), (b1, .inl (o1, 8000, .inl g1)), (b2, .inl (o2, 8000, .inl f))] H := hP
        have hD : va_D A [(b0, .inr (1, [.int (nI N), .int up1, .int ch1, .int wr1, .int (nI bg), .int (nI (bg + tu)), .ref b1, .int (nI hs), .ref b2, .int (nI hs), .ref b3, .ref b4, .int (nI rc)])), (b1, .inl (o1, 8000, .inl g1)), (b2, .inl (o2, 8000, .inl f))] := hD
        refine lv_aload_n hx hb d_BlockDeskModel_snapshot_68 rfl (lv_at hl 1 rfl) ?_
        refine va_get (D := (dC, dI)) (ci := 1) (v := .int (nI rc)) (C := R_BlockDeskModel) (T := F_BlockDeskModel) (N := 13) hx hb hts hin1 hown hK hP 0 rfl rfl 12 (by decide) (hts (.fieldLink R_BlockDeskModel 52 "BlockDeskModel" "records" "I") (by decide +kernel)) (fun _ h9 => h9) rfl d_BlockDeskModel_snapshot_69 ?_
        refine lv_if_le (tgt := 95) hx hb d_BlockDeskModel_snapshot_72 (by decide) (fun c_72 => ?_) (fun c_72 => ?_)
        · have c_72 : ((rc : Nat) : Int) ≤ 0 := (xq_le_n0 (by omega)).mp c_72
          have e8 : bg + (tu + 500 - 1) / 500 * 500 = bg := by have h9 := h0 (by omega); omega
          refine lv_aload_n hx hb d_BlockDeskModel_snapshot_95 rfl (lv_at hl 1 rfl) ?_
          refine lv_aload_n hx hb d_BlockDeskModel_snapshot_96 rfl (lv_at hl 1 rfl) ?_
          refine va_get (D := (dC, dI)) (ci := 1) (v := .int (nI bg)) (C := R_BlockDeskModel) (T := F_BlockDeskModel) (N := 13) hx hb hts hin1 hown hK hP 0 rfl rfl 4 (by decide) (hts (.fieldLink R_BlockDeskModel 46 "BlockDeskModel" "begin" "I") (by decide +kernel)) (fun _ h9 => h9) rfl d_BlockDeskModel_snapshot_97 ?_
          refine va_put (D := (dC, dI)) (ci := 1) (v := .int (nI bg)) (ty := .int) (C := R_BlockDeskModel) (T := F_BlockDeskModel) (N := 13) hx hb hts hin1 t_BlockDeskModel t_BlockDeskModel_ok n_BlockDeskModel hown hK hP hD hS 0 rfl rfl 5 (by decide) (hts (.fieldLink R_BlockDeskModel 43 "BlockDeskModel" "end" "I") (by decide +kernel)) (fun _ h9 => h9) rfl (by decide +kernel) rfl rfl (Nat.le_of_ble_eq_true rfl) d_BlockDeskModel_snapshot_100 (fun H locs hP hD hS => ?_)
          have hP : va_P (dC, dI) classes [(b0, .inr (1, [.int (nI N), .int up1, .int ch1, .int wr1, .int (nI bg), .int (nI bg), .ref b1, .int (nI hs), .ref b2, .int (nI hs), .ref b3, .ref b4, .int (nI rc)])), (b1, .inl (o1, 8000, .inl g1)), (b2, .inl (o2, 8000, .inl f))] H := hP
          have hD : va_D A [(b0, .inr (1, [.int (nI N), .int up1, .int ch1, .int wr1, .int (nI bg), .int (nI bg), .ref b1, .int (nI hs), .ref b2, .int (nI hs), .ref b3, .ref b4, .int (nI rc)])), (b1, .inl (o1, 8000, .inl g1)), (b2, .inl (o2, 8000, .inl f))] := hD
          refine lv_aload_n hx hb d_BlockDeskModel_snapshot_103 rfl (lv_at hl 1 rfl) ?_
          refine lv_iconst (v := nI 0) hx hb d_BlockDeskModel_snapshot_104 (by decide +kernel) ?_
          refine va_put (D := (dC, dI)) (ci := 1) (v := .int (nI 0)) (ty := .int) (C := R_BlockDeskModel) (T := F_BlockDeskModel) (N := 13) hx hb hts hin1 t_BlockDeskModel t_BlockDeskModel_ok n_BlockDeskModel hown hK hP hD hS 0 rfl rfl 12 (by decide) (hts (.fieldLink R_BlockDeskModel 52 "BlockDeskModel" "records" "I") (by decide +kernel)) (fun _ h9 => h9) rfl (by decide +kernel) rfl rfl (Nat.le_of_ble_eq_true rfl) d_BlockDeskModel_snapshot_105 (fun H locs hP hD hS => ?_)
          have hP : va_P (dC, dI) classes [(b0, .inr (1, [.int (nI N), .int up1, .int ch1, .int wr1, .int (nI bg), .int (nI bg), .ref b1, .int (nI hs), .ref b2, .int (nI hs), .ref b3, .ref b4, .int (nI 0)])), (b1, .inl (o1, 8000, .inl g1)), (b2, .inl (o2, 8000, .inl f))] H := hP
          have hD : va_D A [(b0, .inr (1, [.int (nI N), .int up1, .int ch1, .int wr1, .int (nI bg), .int (nI bg), .ref b1, .int (nI hs), .ref b2, .int (nI hs), .ref b3, .ref b4, .int (nI 0)])), (b1, .inl (o1, 8000, .inl g1)), (b2, .inl (o2, 8000, .inl f))] := hD
          refine lv_aload_n hx hb d_BlockDeskModel_snapshot_108 rfl (lv_at hl 1 rfl) ?_
          refine lv_iconst (v := nI 0) hx hb d_BlockDeskModel_snapshot_109 (by decide +kernel) ?_
          refine va_put (D := (dC, dI)) (ci := 1) (v := .int (nI 0)) (ty := .int) (C := R_BlockDeskModel) (T := F_BlockDeskModel) (N := 13) hx hb hts hin1 t_BlockDeskModel t_BlockDeskModel_ok n_BlockDeskModel hown hK hP hD hS 0 rfl rfl 7 (by decide) (hts (.fieldLink R_BlockDeskModel 33 "BlockDeskModel" "inHand" "I") (by decide +kernel)) (fun _ h9 => h9) rfl (by decide +kernel) rfl rfl (Nat.le_of_ble_eq_true rfl) d_BlockDeskModel_snapshot_110 (fun H locs hP hD hS => ?_)
          have hP : va_P (dC, dI) classes [(b0, .inr (1, [.int (nI N), .int up1, .int ch1, .int wr1, .int (nI bg), .int (nI bg), .ref b1, .int (nI 0), .ref b2, .int (nI hs), .ref b3, .ref b4, .int (nI 0)])), (b1, .inl (o1, 8000, .inl g1)), (b2, .inl (o2, 8000, .inl f))] H := hP
          have hD : va_D A [(b0, .inr (1, [.int (nI N), .int up1, .int ch1, .int wr1, .int (nI bg), .int (nI bg), .ref b1, .int (nI 0), .ref b2, .int (nI hs), .ref b3, .ref b4, .int (nI 0)])), (b1, .inl (o1, 8000, .inl g1)), (b2, .inl (o2, 8000, .inl f))] := hD
          refine lv_iconst (v := nI 1) hx hb d_BlockDeskModel_snapshot_113 (by decide +kernel) ?_
          have hP9 := hP.sub (ws' := [(b0, .inr (1, [.int (nI N), .int up1, .int ch1, .int wr1, .int (nI bg), .int (nI bg), .ref b1, .int (nI 0), .ref b2, .int (nI hs), .ref b3, .ref b4, .int (nI 0)])), (b1, .inl (o1, 8000, .inl g1)), (b2, .inl (o2, 8000, .inl f))]) [0, 1, 2] rfl
          have hD9 := hD.sub (ws' := [(b0, .inr (1, [.int (nI N), .int up1, .int ch1, .int wr1, .int (nI bg), .int (nI bg), .ref b1, .int (nI 0), .ref b2, .int (nI hs), .ref b3, .ref b4, .int (nI 0)])), (b1, .inl (o1, 8000, .inl g1)), (b2, .inl (o2, 8000, .inl f))]) [0, 1, 2] (by decide) rfl
          have hK9 := hK.sub (tys' := [(o1, .int), (o2, .int)]) [0, 1] rfl
          exact W.iret (v := nI 1) hx hb hr (fun t ht hW => ⟨⟨nI 1, (0, bg, bg, hs, up1, 0, ch1, wr1, f), rfl, Or.inr (Or.inr ⟨c_4, rfl, up1, ch1, wr1, f, hw, hI, by rw [e8]⟩), by rw [ht]; exact hP9, va_K.moved hW.alike hK9, hD9⟩, hS.F ht⟩) hS.2.2 d_BlockDeskModel_snapshot_114
        · have c_72 : ¬ (((rc : Nat) : Int) ≤ 0) := fun h9 => c_72 ((xq_le_n0 (by omega)).mpr h9)
          refine lv_aload_n hx hb d_BlockDeskModel_snapshot_75 rfl (lv_at hl 1 rfl) ?_
          refine lv_sipush (v := nI 500) hx hb d_BlockDeskModel_snapshot_76 (by decide +kernel) ?_
          refine lv_aload_n hx hb d_BlockDeskModel_snapshot_79 rfl (lv_at hl 1 rfl) ?_
          refine va_get (D := (dC, dI)) (ci := 1) (v := .int (nI (bg + tu))) (C := R_BlockDeskModel) (T := F_BlockDeskModel) (N := 13) hx hb hts hin1 hown hK hP 0 rfl rfl 5 (by decide) (hts (.fieldLink R_BlockDeskModel 43 "BlockDeskModel" "end" "I") (by decide +kernel)) (fun _ h9 => h9) rfl d_BlockDeskModel_snapshot_80 ?_
          refine lv_iconst (v := nI 1) hx hb d_BlockDeskModel_snapshot_83 (by decide +kernel) ?_
          refine lv_isub hx hb d_BlockDeskModel_snapshot_84 ?_
          refine xq_top (nI (bg + tu - 1)) (pk_sub (by omega)) ?_
          refine lv_sipush (v := nI 500) hx hb d_BlockDeskModel_snapshot_85 (by decide +kernel) ?_
          refine lv_idiv hx hb d_BlockDeskModel_snapshot_88 (by decide +kernel) ?_
          refine xq_top (nI ((bg + tu - 1) / 500)) (pk_div (by omega) (by omega) (by omega)) ?_
          refine lv_iconst (v := nI 1) hx hb d_BlockDeskModel_snapshot_89 (by decide +kernel) ?_
          refine lv_iadd hx hb d_BlockDeskModel_snapshot_90 ?_
          refine xq_top (nI ((bg + tu - 1) / 500 + 1)) (nI_add _ _) ?_
          refine lv_imul hx hb d_BlockDeskModel_snapshot_91 ?_
          refine xq_top (nI (500 * ((bg + tu - 1) / 500 + 1))) (pk_mul _ _) ?_
          refine xq_top (nI (bg + (tu + 500 - 1) / 500 * 500)) (congrArg nI (by omega)) ?_
          refine va_put (D := (dC, dI)) (ci := 1) (v := .int (nI (bg + (tu + 500 - 1) / 500 * 500))) (ty := .int) (C := R_BlockDeskModel) (T := F_BlockDeskModel) (N := 13) hx hb hts hin1 t_BlockDeskModel t_BlockDeskModel_ok n_BlockDeskModel hown hK hP hD hS 0 rfl rfl 4 (by decide) (hts (.fieldLink R_BlockDeskModel 46 "BlockDeskModel" "begin" "I") (by decide +kernel)) (fun _ h9 => h9) rfl (by decide +kernel) rfl rfl (Nat.le_of_ble_eq_true rfl) d_BlockDeskModel_snapshot_92 (fun H locs hP hD hS => ?_)
          have hP : va_P (dC, dI) classes [(b0, .inr (1, [.int (nI N), .int up1, .int ch1, .int wr1, .int (nI (bg + (tu + 500 - 1) / 500 * 500)), .int (nI (bg + tu)), .ref b1, .int (nI hs), .ref b2, .int (nI hs), .ref b3, .ref b4, .int (nI rc)])), (b1, .inl (o1, 8000, .inl g1)), (b2, .inl (o2, 8000, .inl f))] H := hP
          have hD : va_D A [(b0, .inr (1, [.int (nI N), .int up1, .int ch1, .int wr1, .int (nI (bg + (tu + 500 - 1) / 500 * 500)), .int (nI (bg + tu)), .ref b1, .int (nI hs), .ref b2, .int (nI hs), .ref b3, .ref b4, .int (nI rc)])), (b1, .inl (o1, 8000, .inl g1)), (b2, .inl (o2, 8000, .inl f))] := hD
          refine lv_aload_n hx hb d_BlockDeskModel_snapshot_95 rfl (lv_at hl 1 rfl) ?_
          refine lv_aload_n hx hb d_BlockDeskModel_snapshot_96 rfl (lv_at hl 1 rfl) ?_
          refine va_get (D := (dC, dI)) (ci := 1) (v := .int (nI (bg + (tu + 500 - 1) / 500 * 500))) (C := R_BlockDeskModel) (T := F_BlockDeskModel) (N := 13) hx hb hts hin1 hown hK hP 0 rfl rfl 4 (by decide) (hts (.fieldLink R_BlockDeskModel 46 "BlockDeskModel" "begin" "I") (by decide +kernel)) (fun _ h9 => h9) rfl d_BlockDeskModel_snapshot_97 ?_
          refine va_put (D := (dC, dI)) (ci := 1) (v := .int (nI (bg + (tu + 500 - 1) / 500 * 500))) (ty := .int) (C := R_BlockDeskModel) (T := F_BlockDeskModel) (N := 13) hx hb hts hin1 t_BlockDeskModel t_BlockDeskModel_ok n_BlockDeskModel hown hK hP hD hS 0 rfl rfl 5 (by decide) (hts (.fieldLink R_BlockDeskModel 43 "BlockDeskModel" "end" "I") (by decide +kernel)) (fun _ h9 => h9) rfl (by decide +kernel) rfl rfl (Nat.le_of_ble_eq_true rfl) d_BlockDeskModel_snapshot_100 (fun H locs hP hD hS => ?_)
          have hP : va_P (dC, dI) classes [(b0, .inr (1, [.int (nI N), .int up1, .int ch1, .int wr1, .int (nI (bg + (tu + 500 - 1) / 500 * 500)), .int (nI (bg + (tu + 500 - 1) / 500 * 500)), .ref b1, .int (nI hs), .ref b2, .int (nI hs), .ref b3, .ref b4, .int (nI rc)])), (b1, .inl (o1, 8000, .inl g1)), (b2, .inl (o2, 8000, .inl f))] H := hP
          have hD : va_D A [(b0, .inr (1, [.int (nI N), .int up1, .int ch1, .int wr1, .int (nI (bg + (tu + 500 - 1) / 500 * 500)), .int (nI (bg + (tu + 500 - 1) / 500 * 500)), .ref b1, .int (nI hs), .ref b2, .int (nI hs), .ref b3, .ref b4, .int (nI rc)])), (b1, .inl (o1, 8000, .inl g1)), (b2, .inl (o2, 8000, .inl f))] := hD
          refine lv_aload_n hx hb d_BlockDeskModel_snapshot_103 rfl (lv_at hl 1 rfl) ?_
          refine lv_iconst (v := nI 0) hx hb d_BlockDeskModel_snapshot_104 (by decide +kernel) ?_
          refine va_put (D := (dC, dI)) (ci := 1) (v := .int (nI 0)) (ty := .int) (C := R_BlockDeskModel) (T := F_BlockDeskModel) (N := 13) hx hb hts hin1 t_BlockDeskModel t_BlockDeskModel_ok n_BlockDeskModel hown hK hP hD hS 0 rfl rfl 12 (by decide) (hts (.fieldLink R_BlockDeskModel 52 "BlockDeskModel" "records" "I") (by decide +kernel)) (fun _ h9 => h9) rfl (by decide +kernel) rfl rfl (Nat.le_of_ble_eq_true rfl) d_BlockDeskModel_snapshot_105 (fun H locs hP hD hS => ?_)
          have hP : va_P (dC, dI) classes [(b0, .inr (1, [.int (nI N), .int up1, .int ch1, .int wr1, .int (nI (bg + (tu + 500 - 1) / 500 * 500)), .int (nI (bg + (tu + 500 - 1) / 500 * 500)), .ref b1, .int (nI hs), .ref b2, .int (nI hs), .ref b3, .ref b4, .int (nI 0)])), (b1, .inl (o1, 8000, .inl g1)), (b2, .inl (o2, 8000, .inl f))] H := hP
          have hD : va_D A [(b0, .inr (1, [.int (nI N), .int up1, .int ch1, .int wr1, .int (nI (bg + (tu + 500 - 1) / 500 * 500)), .int (nI (bg + (tu + 500 - 1) / 500 * 500)), .ref b1, .int (nI hs), .ref b2, .int (nI hs), .ref b3, .ref b4, .int (nI 0)])), (b1, .inl (o1, 8000, .inl g1)), (b2, .inl (o2, 8000, .inl f))] := hD
          refine lv_aload_n hx hb d_BlockDeskModel_snapshot_108 rfl (lv_at hl 1 rfl) ?_
          refine lv_iconst (v := nI 0) hx hb d_BlockDeskModel_snapshot_109 (by decide +kernel) ?_
          refine va_put (D := (dC, dI)) (ci := 1) (v := .int (nI 0)) (ty := .int) (C := R_BlockDeskModel) (T := F_BlockDeskModel) (N := 13) hx hb hts hin1 t_BlockDeskModel t_BlockDeskModel_ok n_BlockDeskModel hown hK hP hD hS 0 rfl rfl 7 (by decide) (hts (.fieldLink R_BlockDeskModel 33 "BlockDeskModel" "inHand" "I") (by decide +kernel)) (fun _ h9 => h9) rfl (by decide +kernel) rfl rfl (Nat.le_of_ble_eq_true rfl) d_BlockDeskModel_snapshot_110 (fun H locs hP hD hS => ?_)
          have hP : va_P (dC, dI) classes [(b0, .inr (1, [.int (nI N), .int up1, .int ch1, .int wr1, .int (nI (bg + (tu + 500 - 1) / 500 * 500)), .int (nI (bg + (tu + 500 - 1) / 500 * 500)), .ref b1, .int (nI 0), .ref b2, .int (nI hs), .ref b3, .ref b4, .int (nI 0)])), (b1, .inl (o1, 8000, .inl g1)), (b2, .inl (o2, 8000, .inl f))] H := hP
          have hD : va_D A [(b0, .inr (1, [.int (nI N), .int up1, .int ch1, .int wr1, .int (nI (bg + (tu + 500 - 1) / 500 * 500)), .int (nI (bg + (tu + 500 - 1) / 500 * 500)), .ref b1, .int (nI 0), .ref b2, .int (nI hs), .ref b3, .ref b4, .int (nI 0)])), (b1, .inl (o1, 8000, .inl g1)), (b2, .inl (o2, 8000, .inl f))] := hD
          refine lv_iconst (v := nI 1) hx hb d_BlockDeskModel_snapshot_113 (by decide +kernel) ?_
          have hP9 := hP.sub (ws' := [(b0, .inr (1, [.int (nI N), .int up1, .int ch1, .int wr1, .int (nI (bg + (tu + 500 - 1) / 500 * 500)), .int (nI (bg + (tu + 500 - 1) / 500 * 500)), .ref b1, .int (nI 0), .ref b2, .int (nI hs), .ref b3, .ref b4, .int (nI 0)])), (b1, .inl (o1, 8000, .inl g1)), (b2, .inl (o2, 8000, .inl f))]) [0, 1, 2] rfl
          have hD9 := hD.sub (ws' := [(b0, .inr (1, [.int (nI N), .int up1, .int ch1, .int wr1, .int (nI (bg + (tu + 500 - 1) / 500 * 500)), .int (nI (bg + (tu + 500 - 1) / 500 * 500)), .ref b1, .int (nI 0), .ref b2, .int (nI hs), .ref b3, .ref b4, .int (nI 0)])), (b1, .inl (o1, 8000, .inl g1)), (b2, .inl (o2, 8000, .inl f))]) [0, 1, 2] (by decide) rfl
          have hK9 := hK.sub (tys' := [(o1, .int), (o2, .int)]) [0, 1] rfl
          exact W.iret (v := nI 1) hx hb hr (fun t ht hW => ⟨⟨nI 1, (0, bg + (tu + 500 - 1) / 500 * 500, bg + (tu + 500 - 1) / 500 * 500, hs, up1, 0, ch1, wr1, f), rfl, Or.inr (Or.inr ⟨c_4, rfl, up1, ch1, wr1, f, hw, hI, rfl⟩), by rw [ht]; exact hP9, va_K.moved hW.alike hK9, hD9⟩, hS.F ht⟩) hS.2.2 d_BlockDeskModel_snapshot_114
      · exact absurd c_27 (xq_n0 (by omega) (by omega))
  · refine lv_iconst (v := nI 0) hx hb d_BlockDeskModel_snapshot_7 (by decide +kernel) ?_
    have hP9 := hP.sub (ws' := [(b0, .inr (1, [.int (nI N), .int up, .int ch, .int wr, .int (nI bg), .int (nI (bg + tu)), .ref b1, .int (nI hs), .ref b2, .int (nI ss), .ref b3, .ref b4, .int (nI rc)])), (b1, .inl (o1, 8000, .inl g1)), (b2, .inl (o2, 8000, .inl g2))]) [0, 1, 2] rfl
    have hD9 := hD.sub (ws' := [(b0, .inr (1, [.int (nI N), .int up, .int ch, .int wr, .int (nI bg), .int (nI (bg + tu)), .ref b1, .int (nI hs), .ref b2, .int (nI ss), .ref b3, .ref b4, .int (nI rc)])), (b1, .inl (o1, 8000, .inl g1)), (b2, .inl (o2, 8000, .inl g2))]) [0, 1, 2] (by decide) rfl
    have hK9 := hK.sub (tys' := [(o1, .int), (o2, .int)]) [0, 1] rfl
    exact W.iret (v := nI 0) hx hb hr (fun t ht hW => ⟨⟨nI 0, (rc, bg, bg + tu, ss, up, hs, ch, wr, g2), rfl, Or.inl ⟨c_4, rfl, rfl⟩, by rw [ht]; exact hP9, va_K.moved hW.alike hK9, hD9⟩, hS.F ht⟩) hS.2.2 d_BlockDeskModel_snapshot_8
