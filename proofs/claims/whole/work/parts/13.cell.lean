set_option maxHeartbeats 4000000 in
set_option maxRecDepth 100000 in
theorem c_law_cell (l : Launch) (b L : Nat) (xs : Nat → Int32) (sz : Nat) (hL : L ≤ 2049) : Met l y_law_cell w_law_cell ({ frames := 0, cells := 0, slots := 0, locals := 0 }) (va_Pc [.ref b, .int (nI 0)] (fun U => U.heap.size = sz ∧ b < sz ∧ va_X b L xs U U.heap)) (va_Qi (fun (r : Int32) (_ : Unit) => r = if 0 < L then xs 0 else nI 0) (fun (_ : Unit) (_ : State) => True) (va_A [] sz)) 0 0 (va_A [] sz) := by
  refine Met.ofW (cc := b_law_cell) (maxL := 2) (ret := (some .int)) (by decide) rfl ?_
  intro p e s m args below meth c s₁ B hml hv
  obtain ⟨rfl, hsz, hbl, hX⟩ := hv
  have hx := B.exec
  have hb := B.bytes
  have hr := B.returns
  have hlocks := B.notSynchronized
  subst hsz
  have hbA : ¬ va_A [] s.heap.size b := fun h => by
    rcases h with ⟨k, e, h⟩ | h
    · simp at h
    · omega
  generalize hAe : va_A [] s.heap.size = A at hbA ⊢
  have hS : va_S A s.heap s.heap [] := va_S.rf
  have hl := lv_entry ([.ref b, .int (nI 0)]) (n := 2) (Nat.le_of_ble_eq_true rfl)
  rw [lg_entry_eq]
  generalize (lg_sl ([.ref b, .int (nI 0)]) ++ List.replicate (2 - (lg_sl ([.ref b, .int (nI 0)])).length) Slot.unset).toArray = ls at hl ⊢
  have hl : lv_has ls 2 [(0, .ref b), (1, .int (nI 0))] := hl
  refine lv_iload_n hx hb d_law_cell_0 rfl (lv_at hl 1 rfl) ?_
  refine lv_aload_n hx hb d_law_cell_1 rfl (lv_at hl 0 rfl) ?_
  refine va_slen hx hb hX hbl hbA hS d_law_cell_2 ?_
  refine xq_top (nI L) (rfl) ?_
  refine lv_icmp_ge (tgt := 12) hx hb d_law_cell_3 (by decide) (fun c_3 => ?_) (fun c_3 => ?_)
  · have c_3 : L ≤ 0 := (nI_leI (by omega) (by omega)).mp c_3
    refine lv_iconst (v := nI 0) hx hb d_law_cell_12 (by decide +kernel) ?_
    exact W.iret (v := nI 0) hx hb hr (fun t ht hW => ⟨⟨nI 0, (), rfl, (if_neg (by omega)).symm, trivial⟩, hS.F ht⟩) hS.2.2 d_law_cell_13
  · have c_3 : ¬ (L ≤ 0) := fun h9 => c_3 ((nI_leI (by omega) (by omega)).mpr h9)
    refine lv_aload_n hx hb d_law_cell_6 rfl (lv_at hl 0 rfl) ?_
    refine lv_iload_n hx hb d_law_cell_7 rfl (lv_at hl 1 rfl) ?_
    refine va_sld hx hb hX hbl hbA hS (vp_in_nI (by omega) (by omega)) d_law_cell_8 ?_
    refine xq_top (xs 0) (by rw [nI_clamp (by omega)]) ?_
    refine lv_goto (tgt := 13) hx hb d_law_cell_9 (by decide) ?_
    exact W.iret (v := xs 0) hx hb hr (fun t ht hW => ⟨⟨xs 0, (), rfl, (if_pos (by omega)).symm, trivial⟩, hS.F ht⟩) hS.2.2 d_law_cell_13
