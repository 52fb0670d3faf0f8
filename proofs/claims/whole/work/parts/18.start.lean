set_option maxHeartbeats 4000000 in
set_option maxRecDepth 100000 in
theorem whole_start {p : Program} {e : Env} {s : State} {m : MethodId} {below : List Frame} {meth : Method} {c : Code} (l : Launch) {b L : Nat} {xs : Nat → Int32} (hL : L ≤ 2049) (C0 : lw_At p s m meth c b L xs) : W p l e room_1 s m #[Value.ref b] below meth c s.heap [] 0 0 (lw_Z below #[Value.ref b] s) (entryFrame m ([Value.ref b] : List Value).toArray 4) := by
  obtain ⟨hx, hb, hr, hml, hown, hts, hX, hbl, hlocks, hgv⟩ := id C0
  have hA : ∀ q : Nat, s.heap.size ≤ q → (fun q : Nat => s.heap.size ≤ q) q := fun _ h => h
  have hbA : ¬ (fun q : Nat => s.heap.size ≤ q) b := Nat.not_le.mpr hbl
  obtain ⟨c0, iS0, hKn0⟩ := u_known (C := R_BlockDesk) (T := F_BlockDesk) (N := 11) (n := 11) hts i_BlockDesk (hts (.instantiable R_BlockDesk 11) (by decide +kernel))
  obtain ⟨c1, iS1, hKn1⟩ := u_known (C := R_BlockDeskModel) (T := F_BlockDeskModel) (N := 13) (n := 13) hts i_BlockDeskModel (hts (.instantiable R_BlockDeskModel 13) (by decide +kernel))
  obtain ⟨dC, dI, hKc⟩ : ∃ (dC : Nat → ClassId) (dI : Nat → Nat → Nat), ∀ (k : Nat) (q : vw_C), classes[k]? = some q → u_Kn s q.1 q.2.1 q.2.2 (dC k) (dI k) := by
    refine ⟨fun k => if k = 0 then c0 else c1, fun k => if k = 0 then iS0 else iS1, ?_⟩
    intro k q hq
    match k, hq with
    | 0, hq => cases hq; exact hKn0
    | 1, hq => cases hq; exact hKn1
    | k + 2, hq => simp [classes] at hq
  have hS : va_S (fun q : Nat => s.heap.size ≤ q) s.heap s.heap [] := va_S.rf
  have hK : va_K (dC, dI) classes [] s := ⟨hKc, fun k q h => by simp at h⟩
  have hP : va_P (dC, dI) classes [] s.heap := fun k q h => by simp at h
  have hD : va_D (fun q : Nat => s.heap.size ≤ q) [] := ⟨fun i j p q h => by simp at h, fun k q h => by simp at h⟩
  have hl := lv_entry ([.ref b]) (n := 4) (Nat.le_of_ble_eq_true rfl)
  rw [lg_entry_eq]
  generalize (lg_sl ([.ref b]) ++ List.replicate (4 - (lg_sl ([.ref b])).length) Slot.unset).toArray = ls at hl ⊢
  have hl : lv_has ls 4 [(0, .ref b)] := hl
  refine va_new (ci := 0) (fs := [.null, .null, .int (nI 0), .int (nI 0), .null, .int (nI 0), .null, .int (nI 0), .int (nI 0), .int (nI 0), .int (nI 0)]) (C := R_BlockDesk) (T := F_BlockDesk) (N := 11) hx hb hts i_BlockDesk t_BlockDesk t_BlockDesk_ok hown (hts (.classLink R_law 7 R_BlockDesk) (by decide +kernel)) (hts (.instantiable R_BlockDesk 11) (by decide +kernel)) (hts (.initialized R_BlockDesk) (by decide +kernel)) hK hP hD hS hA rfl (fun j hj => by rcases (show j = 0 ∨ j = 1 ∨ j = 2 ∨ j = 3 ∨ j = 4 ∨ j = 5 ∨ j = 6 ∨ j = 7 ∨ j = 8 ∨ j = 9 ∨ j = 10 by omega) with rfl | rfl | rfl | rfl | rfl | rfl | rfl | rfl | rfl | rfl | rfl <;> rfl) (Nat.le_of_ble_eq_true rfl) (Nat.le_of_ble_eq_true rfl) d_law_0 (fun a0 H hP hD hS => ?_)
  have hP : va_P (dC, dI) classes [(a0, .inr (0, [.null, .null, .int (nI 0), .int (nI 0), .null, .int (nI 0), .null, .int (nI 0), .int (nI 0), .int (nI 0), .int (nI 0)]))] H := hP
  have hD : va_D (fun q : Nat => s.heap.size ≤ q) [(a0, .inr (0, [.null, .null, .int (nI 0), .int (nI 0), .null, .int (nI 0), .null, .int (nI 0), .int (nI 0), .int (nI 0), .int (nI 0)]))] := hD
  refine W.widen (k := 1) (n := 11) (by omega) (by omega) ?_
  refine lv_dup hx hb d_law_3 rfl ?_
  refine lv_aload_n hx hb d_law_4 rfl (lv_at hl 0 rfl) ?_
  refine lv_iconst (v := nI 0) hx hb d_law_5 (by decide +kernel) ?_
  have hF0 := va_free (wc := []) hD hS hA [] rfl
  refine va_calli (va_runS (As := [.ref b, .int (nI 0)]) (rest := [.ref a0, .ref a0]) ⟨hx, hb, hml, hown, hts⟩ (c_law_cell l b L xs H.size hL) (va_cwS 2 hts g_law_law_cell rfl rfl rfl (by decide +kernel) ⟨Nat.le_of_ble_eq_true rfl, Nat.le_of_ble_eq_true rfl⟩) ⟨fun a U g mk q => by obtain ⟨q0, q1, q2, q3⟩ := q; exact ⟨q0, q1, q2, va_X.moved (u := U) (U := U.calling g mk a) (Vm.Alike.refl U.vm) q3⟩, fun U hU hW => ⟨rfl, by rw [hU], Nat.lt_of_lt_of_le hbl hS.1, by rw [hU]; exact (hX.kept (hS.2.1 b hbl hbA)).moved hW.alike⟩⟩ rfl rfl hl.1 rfl (lv_room (Nat.le_of_ble_eq_true rfl)) d_law_6 ⟨Nat.le_of_ble_eq_true rfl, Nat.le_of_ble_eq_true rfl⟩) hS (fun q _ h => hF0 q h) hF0 (fun r_6 u t H1 locs ht hvm hw_r_6 hB hz1 hk1 hS => ?_)
  obtain ⟨hP, hD⟩ := va_join (wr := [(a0, .inr (0, [.null, .null, .int (nI 0), .int (nI 0), .null, .int (nI 0), .null, .int (nI 0), .int (nI 0), .int (nI 0), .int (nI 0)]))]) (w1 := []) hP hD [] [0] rfl rfl (by decide) (by decide) hk1 hF0 (fun k q h => by simp at h) ⟨fun i j p q h => by simp at h, fun k q h => by simp at h⟩
  generalize H1 = H at hP hS ⊢
  have hP : va_P (dC, dI) classes [(a0, .inr (0, [.null, .null, .int (nI 0), .int (nI 0), .null, .int (nI 0), .null, .int (nI 0), .int (nI 0), .int (nI 0), .int (nI 0)]))] H := hP
  have hD : va_D (fun q : Nat => s.heap.size ≤ q) [(a0, .inr (0, [.null, .null, .int (nI 0), .int (nI 0), .null, .int (nI 0), .null, .int (nI 0), .int (nI 0), .int (nI 0), .int (nI 0)]))] := hD
  have hPc := hP.sub (ws' := [(a0, .inr (0, [.null, .null, .int (nI 0), .int (nI 0), .null, .int (nI 0), .null, .int (nI 0), .int (nI 0), .int (nI 0), .int (nI 0)]))]) [0] rfl
  have hDc := hD.sub (ws' := [(a0, .inr (0, [.null, .null, .int (nI 0), .int (nI 0), .null, .int (nI 0), .null, .int (nI 0), .int (nI 0), .int (nI 0), .int (nI 0)]))]) [0] (by decide) rfl
  have hKc := hK.sub (tys' := []) [] rfl
  have hFc := va_free (wc := [(a0, .inr (0, [.null, .null, .int (nI 0), .int (nI 0), .null, .int (nI 0), .null, .int (nI 0), .int (nI 0), .int (nI 0), .int (nI 0)]))]) hD hS hA [0] rfl
  refine va_callv (va_runI (As := [.int r_6]) (rest := [.ref a0]) ⟨hx, hb, hml, hown, hts⟩ (c_BlockDesk_init l dC dI H.size a0 r_6 ) (cwI 1 hts g_law_BlockDesk_init rfl rfl rfl (hts (.initialized R_BlockDesk) (by decide +kernel)) (hts (.methodLink R_law 15 y_BlockDesk_init) (by decide +kernel)) (hts (.instanceMethod y_BlockDesk_init) (by decide +kernel)) rfl (by decide +kernel) ⟨Nat.le_of_ble_eq_true rfl, Nat.le_of_ble_eq_true rfl⟩) ⟨fun a U g mk q => by obtain ⟨q0, q1, qP, qK, qD⟩ := q; exact ⟨q0, q1, qP, va_K.moved (u := U) (U := U.calling g mk a) (Vm.Alike.refl U.vm) qK, qD⟩, fun U hU hW => ⟨rfl, by rw [hU], by rw [hU]; exact hPc, va_K.moved hW.alike hKc, hDc.weaken (fun _ _ _ _ => trivial)⟩⟩ rfl rfl hl.1 rfl (lv_room (Nat.le_of_ble_eq_true rfl)) d_law_9 ⟨Nat.le_of_ble_eq_true rfl, Nat.le_of_ble_eq_true rfl⟩) hS (fun q _ h => hFc q h) hFc (fun u t H1 locs ht hvm hw hB hz1 hk1 hS => ?_)
  obtain ⟨a1, a2, a3, a4, k1, k2, k3, k4⟩ := u
  obtain ⟨hP1, hK1, hD1⟩ := hB
  rw [ht] at hP1
  try dsimp only at hw
  obtain ⟨hP, hD⟩ := va_join (wr := []) (w1 := [(a0, .inr (0, [.ref a1, .ref a2, .int (nI 0), .int (nI 0), .ref a3, .int (nI 0), .ref a4, .int (nI 0), .int (nI 1), .int (-1), .int (nI 0)])), (a1, .inl (k1, 500 * zq_nN r_6, .inl (fun _ => 0))), (a2, .inl (k2, 125 * zq_nN r_6 + 1, .inl (fun _ => 0))), (a3, .inl (k3, 8000, .inl (fun _ => 0))), (a4, .inl (k4, 8000, .inl (fun _ => 0)))]) hP hD [0] [] rfl rfl (by decide) (by decide) hk1 hFc hP1 hD1
  have hK1 := va_K.moved hvm.symm hK1
  have hK := hK.app hK1
  have hK : va_K (dC, dI) classes [(k1, .byte), (k2, .int), (k3, .byte), (k4, .byte)] s := hK
  generalize H1 = H at hP hS ⊢
  have hP : va_P (dC, dI) classes [(a0, .inr (0, [.ref a1, .ref a2, .int (nI 0), .int (nI 0), .ref a3, .int (nI 0), .ref a4, .int (nI 0), .int (nI 1), .int (-1), .int (nI 0)])), (a1, .inl (k1, 500 * zq_nN r_6, .inl (fun _ => 0))), (a2, .inl (k2, 125 * zq_nN r_6 + 1, .inl (fun _ => 0))), (a3, .inl (k3, 8000, .inl (fun _ => 0))), (a4, .inl (k4, 8000, .inl (fun _ => 0)))] H := hP
  have hD : va_D (fun q : Nat => s.heap.size ≤ q) [(a0, .inr (0, [.ref a1, .ref a2, .int (nI 0), .int (nI 0), .ref a3, .int (nI 0), .ref a4, .int (nI 0), .int (nI 1), .int (-1), .int (nI 0)])), (a1, .inl (k1, 500 * zq_nN r_6, .inl (fun _ => 0))), (a2, .inl (k2, 125 * zq_nN r_6 + 1, .inl (fun _ => 0))), (a3, .inl (k3, 8000, .inl (fun _ => 0))), (a4, .inl (k4, 8000, .inl (fun _ => 0)))] := hD
  refine W.widen (k := 5) (n := 36012) (by omega) (by omega) ?_
  refine lv_astore_n (lv' := [(1, .ref a0), (0, .ref b)]) hx hb d_law_12 rfl hl (by decide) rfl (fun ls hl => ?_)
  refine va_new (ci := 1) (fs := [.int (nI 0), .int (nI 0), .int (nI 0), .int (nI 0), .int (nI 0), .int (nI 0), .null, .int (nI 0), .null, .int (nI 0), .null, .null, .int (nI 0)]) (C := R_BlockDeskModel) (T := F_BlockDeskModel) (N := 13) hx hb hts i_BlockDeskModel t_BlockDeskModel t_BlockDeskModel_ok hown (hts (.classLink R_law 18 R_BlockDeskModel) (by decide +kernel)) (hts (.instantiable R_BlockDeskModel 13) (by decide +kernel)) (hts (.initialized R_BlockDeskModel) (by decide +kernel)) hK hP hD hS hA rfl (fun j hj => by rcases (show j = 0 ∨ j = 1 ∨ j = 2 ∨ j = 3 ∨ j = 4 ∨ j = 5 ∨ j = 6 ∨ j = 7 ∨ j = 8 ∨ j = 9 ∨ j = 10 ∨ j = 11 ∨ j = 12 by omega) with rfl | rfl | rfl | rfl | rfl | rfl | rfl | rfl | rfl | rfl | rfl | rfl | rfl <;> rfl) (Nat.le_of_ble_eq_true rfl) (Nat.le_of_ble_eq_true rfl) d_law_13 (fun b0 H hP hD hS => ?_)
  have hP : va_P (dC, dI) classes [(a0, .inr (0, [.ref a1, .ref a2, .int (nI 0), .int (nI 0), .ref a3, .int (nI 0), .ref a4, .int (nI 0), .int (nI 1), .int (-1), .int (nI 0)])), (a1, .inl (k1, 500 * zq_nN r_6, .inl (fun _ => 0))), (a2, .inl (k2, 125 * zq_nN r_6 + 1, .inl (fun _ => 0))), (a3, .inl (k3, 8000, .inl (fun _ => 0))), (a4, .inl (k4, 8000, .inl (fun _ => 0))), (b0, .inr (1, [.int (nI 0), .int (nI 0), .int (nI 0), .int (nI 0), .int (nI 0), .int (nI 0), .null, .int (nI 0), .null, .int (nI 0), .null, .null, .int (nI 0)]))] H := hP
  have hD : va_D (fun q : Nat => s.heap.size ≤ q) [(a0, .inr (0, [.ref a1, .ref a2, .int (nI 0), .int (nI 0), .ref a3, .int (nI 0), .ref a4, .int (nI 0), .int (nI 1), .int (-1), .int (nI 0)])), (a1, .inl (k1, 500 * zq_nN r_6, .inl (fun _ => 0))), (a2, .inl (k2, 125 * zq_nN r_6 + 1, .inl (fun _ => 0))), (a3, .inl (k3, 8000, .inl (fun _ => 0))), (a4, .inl (k4, 8000, .inl (fun _ => 0))), (b0, .inr (1, [.int (nI 0), .int (nI 0), .int (nI 0), .int (nI 0), .int (nI 0), .int (nI 0), .null, .int (nI 0), .null, .int (nI 0), .null, .null, .int (nI 0)]))] := hD
  refine W.widen (k := 6) (n := 36025) (by omega) (by omega) ?_
  refine lv_dup hx hb d_law_16 rfl ?_
  refine lv_aload_n hx hb d_law_17 rfl (lv_at hl 1 rfl) ?_
  refine lv_iconst (v := nI 0) hx hb d_law_18 (by decide +kernel) ?_
  have hF0 := va_free (wc := []) hD hS hA [] rfl
  refine va_calli (va_runS (As := [.ref b, .int (nI 0)]) (rest := [.ref b0, .ref b0]) ⟨hx, hb, hml, hown, hts⟩ (c_law_cell l b L xs H.size hL) (va_cwS 2 hts g_law_law_cell rfl rfl rfl (by decide +kernel) ⟨Nat.le_of_ble_eq_true rfl, Nat.le_of_ble_eq_true rfl⟩) ⟨fun a U g mk q => by obtain ⟨q0, q1, q2, q3⟩ := q; exact ⟨q0, q1, q2, va_X.moved (u := U) (U := U.calling g mk a) (Vm.Alike.refl U.vm) q3⟩, fun U hU hW => ⟨rfl, by rw [hU], Nat.lt_of_lt_of_le hbl hS.1, by rw [hU]; exact (hX.kept (hS.2.1 b hbl hbA)).moved hW.alike⟩⟩ rfl rfl hl.1 rfl (lv_room (Nat.le_of_ble_eq_true rfl)) d_law_19 ⟨Nat.le_of_ble_eq_true rfl, Nat.le_of_ble_eq_true rfl⟩) hS (fun q _ h => hF0 q h) hF0 (fun r_19 u t H1 locs ht hvm hw_r_19 hB hz1 hk1 hS => ?_)
  obtain ⟨hP, hD⟩ := va_join (wr := [(a0, .inr (0, [.ref a1, .ref a2, .int (nI 0), .int (nI 0), .ref a3, .int (nI 0), .ref a4, .int (nI 0), .int (nI 1), .int (-1), .int (nI 0)])), (a1, .inl (k1, 500 * zq_nN r_6, .inl (fun _ => 0))), (a2, .inl (k2, 125 * zq_nN r_6 + 1, .inl (fun _ => 0))), (a3, .inl (k3, 8000, .inl (fun _ => 0))), (a4, .inl (k4, 8000, .inl (fun _ => 0))), (b0, .inr (1, [.int (nI 0), .int (nI 0), .int (nI 0), .int (nI 0), .int (nI 0), .int (nI 0), .null, .int (nI 0), .null, .int (nI 0), .null, .null, .int (nI 0)]))]) (w1 := []) hP hD [] [0, 1, 2, 3, 4, 5] rfl rfl (by decide) (by decide) hk1 hF0 (fun k q h => by simp at h) ⟨fun i j p q h => by simp at h, fun k q h => by simp at h⟩
  generalize H1 = H at hP hS ⊢
  have hP : va_P (dC, dI) classes [(a0, .inr (0, [.ref a1, .ref a2, .int (nI 0), .int (nI 0), .ref a3, .int (nI 0), .ref a4, .int (nI 0), .int (nI 1), .int (-1), .int (nI 0)])), (a1, .inl (k1, 500 * zq_nN r_6, .inl (fun _ => 0))), (a2, .inl (k2, 125 * zq_nN r_6 + 1, .inl (fun _ => 0))), (a3, .inl (k3, 8000, .inl (fun _ => 0))), (a4, .inl (k4, 8000, .inl (fun _ => 0))), (b0, .inr (1, [.int (nI 0), .int (nI 0), .int (nI 0), .int (nI 0), .int (nI 0), .int (nI 0), .null, .int (nI 0), .null, .int (nI 0), .null, .null, .int (nI 0)]))] H := hP
  have hD : va_D (fun q : Nat => s.heap.size ≤ q) [(a0, .inr (0, [.ref a1, .ref a2, .int (nI 0), .int (nI 0), .ref a3, .int (nI 0), .ref a4, .int (nI 0), .int (nI 1), .int (-1), .int (nI 0)])), (a1, .inl (k1, 500 * zq_nN r_6, .inl (fun _ => 0))), (a2, .inl (k2, 125 * zq_nN r_6 + 1, .inl (fun _ => 0))), (a3, .inl (k3, 8000, .inl (fun _ => 0))), (a4, .inl (k4, 8000, .inl (fun _ => 0))), (b0, .inr (1, [.int (nI 0), .int (nI 0), .int (nI 0), .int (nI 0), .int (nI 0), .int (nI 0), .null, .int (nI 0), .null, .int (nI 0), .null, .null, .int (nI 0)]))] := hD
  have e19 : r_6 = r_19 := hw_r_6.trans hw_r_19.symm
  subst e19
  have hPc := hP.sub (ws' := [(b0, .inr (1, [.int (nI 0), .int (nI 0), .int (nI 0), .int (nI 0), .int (nI 0), .int (nI 0), .null, .int (nI 0), .null, .int (nI 0), .null, .null, .int (nI 0)]))]) [5] rfl
  have hDc := hD.sub (ws' := [(b0, .inr (1, [.int (nI 0), .int (nI 0), .int (nI 0), .int (nI 0), .int (nI 0), .int (nI 0), .null, .int (nI 0), .null, .int (nI 0), .null, .null, .int (nI 0)]))]) [5] (by decide) rfl
  have hKc := hK.sub (tys' := []) [] rfl
  have hFc := va_free (wc := [(b0, .inr (1, [.int (nI 0), .int (nI 0), .int (nI 0), .int (nI 0), .int (nI 0), .int (nI 0), .null, .int (nI 0), .null, .int (nI 0), .null, .null, .int (nI 0)]))]) hD hS hA [5] rfl
  refine va_callv (va_runI (As := [.int r_6]) (rest := [.ref b0]) ⟨hx, hb, hml, hown, hts⟩ (c_BlockDeskModel_init l dC dI H.size b0 r_6 ) (cwI 1 hts g_law_BlockDeskModel_init rfl rfl rfl (hts (.initialized R_BlockDeskModel) (by decide +kernel)) (hts (.methodLink R_law 20 y_BlockDeskModel_init) (by decide +kernel)) (hts (.instanceMethod y_BlockDeskModel_init) (by decide +kernel)) rfl (by decide +kernel) ⟨Nat.le_of_ble_eq_true rfl, Nat.le_of_ble_eq_true rfl⟩) ⟨fun a U g mk q => by obtain ⟨q0, q1, qP, qK, qD⟩ := q; exact ⟨q0, q1, qP, va_K.moved (u := U) (U := U.calling g mk a) (Vm.Alike.refl U.vm) qK, qD⟩, fun U hU hW => ⟨rfl, by rw [hU], by rw [hU]; exact hPc, va_K.moved hW.alike hKc, hDc.weaken (fun _ _ _ _ => trivial)⟩⟩ rfl rfl hl.1 rfl (lv_room (Nat.le_of_ble_eq_true rfl)) d_law_22 ⟨Nat.le_of_ble_eq_true rfl, Nat.le_of_ble_eq_true rfl⟩) hS (fun q _ h => hFc q h) hFc (fun u t H1 locs ht hvm hw hB hz1 hk1 hS => ?_)
  obtain ⟨b1, b2, b3, b4, o1, o2, o3, o4⟩ := u
  obtain ⟨hP1, hK1, hD1⟩ := hB
  rw [ht] at hP1
  try dsimp only at hw
  obtain ⟨hP, hD⟩ := va_join (wr := [(a0, .inr (0, [.ref a1, .ref a2, .int (nI 0), .int (nI 0), .ref a3, .int (nI 0), .ref a4, .int (nI 0), .int (nI 1), .int (-1), .int (nI 0)])), (a1, .inl (k1, 500 * zq_nN r_6, .inl (fun _ => 0))), (a2, .inl (k2, 125 * zq_nN r_6 + 1, .inl (fun _ => 0))), (a3, .inl (k3, 8000, .inl (fun _ => 0))), (a4, .inl (k4, 8000, .inl (fun _ => 0)))]) (w1 := [(b0, .inr (1, [.int (nI (zq_nN r_6)), .int (nI 1), .int (-1), .int (nI 0), .int (nI 0), .int (nI 0), .ref b1, .int (nI 0), .ref b2, .int (nI 0), .ref b3, .ref b4, .int (nI 0)])), (b1, .inl (o1, 8000, .inl (fun _ => 0))), (b2, .inl (o2, 8000, .inl (fun _ => 0))), (b3, .inl (o3, 16000, .inl (fun _ => 0))), (b4, .inl (o4, 4001, .inl (fun _ => 0)))]) hP hD [5] [0, 1, 2, 3, 4] rfl rfl (by decide) (by decide) hk1 hFc hP1 hD1
  have hK1 := va_K.moved hvm.symm hK1
  have hK := hK.app hK1
  have hK : va_K (dC, dI) classes [(k1, .byte), (k2, .int), (k3, .byte), (k4, .byte), (o1, .int), (o2, .int), (o3, .int), (o4, .int)] s := hK
  generalize H1 = H at hP hS ⊢
  have hP : va_P (dC, dI) classes [(a0, .inr (0, [.ref a1, .ref a2, .int (nI 0), .int (nI 0), .ref a3, .int (nI 0), .ref a4, .int (nI 0), .int (nI 1), .int (-1), .int (nI 0)])), (a1, .inl (k1, 500 * zq_nN r_6, .inl (fun _ => 0))), (a2, .inl (k2, 125 * zq_nN r_6 + 1, .inl (fun _ => 0))), (a3, .inl (k3, 8000, .inl (fun _ => 0))), (a4, .inl (k4, 8000, .inl (fun _ => 0))), (b0, .inr (1, [.int (nI (zq_nN r_6)), .int (nI 1), .int (-1), .int (nI 0), .int (nI 0), .int (nI 0), .ref b1, .int (nI 0), .ref b2, .int (nI 0), .ref b3, .ref b4, .int (nI 0)])), (b1, .inl (o1, 8000, .inl (fun _ => 0))), (b2, .inl (o2, 8000, .inl (fun _ => 0))), (b3, .inl (o3, 16000, .inl (fun _ => 0))), (b4, .inl (o4, 4001, .inl (fun _ => 0)))] H := hP
  have hD : va_D (fun q : Nat => s.heap.size ≤ q) [(a0, .inr (0, [.ref a1, .ref a2, .int (nI 0), .int (nI 0), .ref a3, .int (nI 0), .ref a4, .int (nI 0), .int (nI 1), .int (-1), .int (nI 0)])), (a1, .inl (k1, 500 * zq_nN r_6, .inl (fun _ => 0))), (a2, .inl (k2, 125 * zq_nN r_6 + 1, .inl (fun _ => 0))), (a3, .inl (k3, 8000, .inl (fun _ => 0))), (a4, .inl (k4, 8000, .inl (fun _ => 0))), (b0, .inr (1, [.int (nI (zq_nN r_6)), .int (nI 1), .int (-1), .int (nI 0), .int (nI 0), .int (nI 0), .ref b1, .int (nI 0), .ref b2, .int (nI 0), .ref b3, .ref b4, .int (nI 0)])), (b1, .inl (o1, 8000, .inl (fun _ => 0))), (b2, .inl (o2, 8000, .inl (fun _ => 0))), (b3, .inl (o3, 16000, .inl (fun _ => 0))), (b4, .inl (o4, 4001, .inl (fun _ => 0)))] := hD
  refine W.widen (k := 10) (n := 72026) (by omega) (by omega) ?_
  refine lv_astore_n (lv' := [(2, .ref b0), (1, .ref a0), (0, .ref b)]) hx hb d_law_25 rfl hl (by decide) rfl (fun ls hl => ?_)
  refine lv_iconst (v := nI 1) hx hb d_law_26 (by decide +kernel) ?_
  refine lv_istore_n (lv' := [(3, .int (nI 1)), (2, .ref b0), (1, .ref a0), (0, .ref b)]) hx hb d_law_27 rfl hl (by decide) rfl (fun ls hl => ?_)
  refine W.widen (k := 600000) (n := 7302250) (by omega) (by omega) ?_
  exact law_loop hL C0 (zq_nN r_6) a0 a1 a2 b0 b1 b2 b3 b4 k1 k2 o1 o2 o3 o4 (L + 3) 1 (Nat.le_refl 1) (by omega) (by omega) (fun _ => 0) 0 0 0 0 0 (nI 1) (-1) (nI 0) (fun _ => 0) (fun _ => 0) (fun _ => 0) (fun _ => 0) (fun _ => 0) (fun _ => 0) (fun _ => 0) (fun _ => 0) a3 a4 k3 k4 _ _ (zq_I_init (zq_nN_in r_6)) (hK.sub [0, 1, 2, 3, 4, 5, 6, 7] rfl) (hP.sub [0, 1, 2, 3, 4, 5, 6, 7, 8, 9] rfl) (hD.sub [0, 1, 2, 3, 4, 5, 6, 7, 8, 9] (by decide) rfl) hS ls (lv_sub hl [3, 2, 1, 0] rfl)
