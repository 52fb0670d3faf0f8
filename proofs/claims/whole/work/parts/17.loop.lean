set_option maxHeartbeats 4000000 in
set_option maxRecDepth 100000 in
theorem law_loop {p : Program} {l : Launch} {e : Env} {s : State} {m : MethodId} {below : List Frame} {meth : Method} {c : Code} {dC : Nat → ClassId} {dI : Nat → Nat → Nat} {b L : Nat} {xs : Nat → Int32} (hL : L ≤ 2049) (C0 : lw_At p s m meth c b L xs) (N a0 a1 a2 b0 b1 b2 b3 b4 : Nat) (k1 k2 o1 o2 o3 o4 : ClassId) : ∀ (n i : Nat), 1 ≤ i → i + 4 ≤ L + 4 + 4 → L + 4 ≤ i + n → ∀ (T : Nat → Nat) (rc bg ss hs tu : Nat) (up ch wr : Int32) (f1 f2 f3 f4 g1 g2 g3 g4 : Nat → Int32) (a3 a4 : Nat) (k3 k4 : ClassId) (H : Heap) (locs : List Loc), zq_I N T i rc bg ss hs tu ch f1 f2 f3 f4 g1 g2 g3 g4 → va_K (dC, dI) classes [(k1, .byte), (k2, .int), (k3, .byte), (k4, .byte), (o1, .int), (o2, .int), (o3, .int), (o4, .int)] s → va_P (dC, dI) classes [(a0, .inr (0, [.ref a1, .ref a2, .int (nI rc), .int (nI bg), .ref a3, .int (nI ss), .ref a4, .int (nI hs), .int up, .int ch, .int wr])), (a1, .inl (k1, (500 * N), .inl f1)), (a2, .inl (k2, (125 * N + 1), .inl f2)), (a3, .inl (k3, 8000, .inl f3)), (a4, .inl (k4, 8000, .inl f4)), (b0, .inr (1, [.int (nI N), .int up, .int ch, .int wr, .int (nI bg), .int (nI (bg + tu)), .ref b1, .int (nI hs), .ref b2, .int (nI ss), .ref b3, .ref b4, .int (nI rc)])), (b1, .inl (o1, 8000, .inl g1)), (b2, .inl (o2, 8000, .inl g2)), (b3, .inl (o3, 16000, .inl g3)), (b4, .inl (o4, 4001, .inl g4))] H → va_D (fun q : Nat => s.heap.size ≤ q) [(a0, .inr (0, [.ref a1, .ref a2, .int (nI rc), .int (nI bg), .ref a3, .int (nI ss), .ref a4, .int (nI hs), .int up, .int ch, .int wr])), (a1, .inl (k1, (500 * N), .inl f1)), (a2, .inl (k2, (125 * N + 1), .inl f2)), (a3, .inl (k3, 8000, .inl f3)), (a4, .inl (k4, 8000, .inl f4)), (b0, .inr (1, [.int (nI N), .int up, .int ch, .int wr, .int (nI bg), .int (nI (bg + tu)), .ref b1, .int (nI hs), .ref b2, .int (nI ss), .ref b3, .ref b4, .int (nI rc)])), (b1, .inl (o1, 8000, .inl g1)), (b2, .inl (o2, 8000, .inl g2)), (b3, .inl (o3, 16000, .inl g3)), (b4, .inl (o4, 4001, .inl g4))] → va_S (fun q : Nat => s.heap.size ≤ q) s.heap H locs → ∀ ls : Array Slot, lv_has ls 4 [(0, .ref b), (1, .ref a0), (2, .ref b0), (3, .int (nI i))] → W p l e room_1 s m #[Value.ref b] below meth c H locs 600000 7302250 (lw_Z below #[Value.ref b] s) (F0 m 28 ls []) := by
  obtain ⟨hx, hb, hr, hml, hown, hts, hX, hbl, hlocks, hgv⟩ := id C0
  have hbA : ¬ (fun q : Nat => s.heap.size ≤ q) b := Nat.not_le.mpr hbl
  intro n
  induction n with
  | zero =>
    intro i h1 h2 h3 T rc bg ss hs tu up ch wr f1 f2 f3 f4 g1 g2 g3 g4 a3 a4 k3 k4 H locs hI hK hP hD hS ls hl
    refine lv_iload_n hx hb d_law_28 rfl (lv_at hl 3 rfl) ?_
    refine lv_aload_n hx hb d_law_29 rfl (lv_at hl 0 rfl) ?_
    refine va_slen hx hb hX hbl hbA hS d_law_30 ?_
    refine xq_top (nI L) (rfl) ?_
    refine lv_iconst (v := nI 4) hx hb d_law_31 (by decide +kernel) ?_
    refine lv_isub hx hb d_law_32 ?_
    refine lv_icmp_gt (tgt := 352) hx hb d_law_33 (by decide) (fun c_33 => ?_) (fun c_33 => ?_)
    · have c_33 : (nI L - nI 4).toInt < ((i : Nat) : Int) := (xq_lt_r (by omega)).mp c_33
      rw [pk_sub_toInt (by omega) (by omega)] at c_33
      refine lv_iconst (v := 1) hx hb d_law_352 (by decide) ?_
      refine va_forget (fun q hq => hS.2.2 q hq) ?_
      refine W.widen (k := 600000) (n := 7302250) (Nat.le_refl _) (Nat.le_refl _) ?_
      exact lw_ret hx hb hr hlocks d_law_353
    · have c_33 : ¬ ((nI L - nI 4).toInt < ((i : Nat) : Int)) := fun h9 => c_33 ((xq_lt_r (by omega)).mpr h9)
      rw [pk_sub_toInt (by omega) (by omega)] at c_33
      exact absurd (show (i : Int) + 4 ≤ (L : Int) by omega) (by omega)
  | succ n ih =>
    intro i h1 h2 h3 T rc bg ss hs tu up ch wr f1 f2 f3 f4 g1 g2 g3 g4 a3 a4 k3 k4 H locs hI hK hP hD hS ls hl
    refine lv_iload_n hx hb d_law_28 rfl (lv_at hl 3 rfl) ?_
    refine lv_aload_n hx hb d_law_29 rfl (lv_at hl 0 rfl) ?_
    refine va_slen hx hb hX hbl hbA hS d_law_30 ?_
    refine xq_top (nI L) (rfl) ?_
    refine lv_iconst (v := nI 4) hx hb d_law_31 (by decide +kernel) ?_
    refine lv_isub hx hb d_law_32 ?_
    refine lv_icmp_gt (tgt := 352) hx hb d_law_33 (by decide) (fun c_33 => ?_) (fun c_33 => ?_)
    · have c_33 : (nI L - nI 4).toInt < ((i : Nat) : Int) := (xq_lt_r (by omega)).mp c_33
      rw [pk_sub_toInt (by omega) (by omega)] at c_33
      refine lv_iconst (v := 1) hx hb d_law_352 (by decide) ?_
      refine va_forget (fun q hq => hS.2.2 q hq) ?_
      refine W.widen (k := 600000) (n := 7302250) (Nat.le_refl _) (Nat.le_refl _) ?_
      exact lw_ret hx hb hr hlocks d_law_353
    · have c_33 : ¬ ((nI L - nI 4).toInt < ((i : Nat) : Int)) := fun h9 => c_33 ((xq_lt_r (by omega)).mpr h9)
      rw [pk_sub_toInt (by omega) (by omega)] at c_33
      have hi4 : i + 4 ≤ L := by omega
      have KK : ∀ (T : Nat → Nat) (rc bg ss hs tu : Nat) (up ch wr : Int32) (f1 f2 f3 f4 g1 g2 g3 g4 : Nat → Int32) (a3 a4 : Nat) (k3 k4 : ClassId) (H : Heap) (locs : List Loc), zq_I N T (i + 4) rc bg ss hs tu ch f1 f2 f3 f4 g1 g2 g3 g4 → va_K (dC, dI) classes [(k1, .byte), (k2, .int), (k3, .byte), (k4, .byte), (o1, .int), (o2, .int), (o3, .int), (o4, .int)] s → va_P (dC, dI) classes [(a0, .inr (0, [.ref a1, .ref a2, .int (nI rc), .int (nI bg), .ref a3, .int (nI ss), .ref a4, .int (nI hs), .int up, .int ch, .int wr])), (a1, .inl (k1, (500 * N), .inl f1)), (a2, .inl (k2, (125 * N + 1), .inl f2)), (a3, .inl (k3, 8000, .inl f3)), (a4, .inl (k4, 8000, .inl f4)), (b0, .inr (1, [.int (nI N), .int up, .int ch, .int wr, .int (nI bg), .int (nI (bg + tu)), .ref b1, .int (nI hs), .ref b2, .int (nI ss), .ref b3, .ref b4, .int (nI rc)])), (b1, .inl (o1, 8000, .inl g1)), (b2, .inl (o2, 8000, .inl g2)), (b3, .inl (o3, 16000, .inl g3)), (b4, .inl (o4, 4001, .inl g4))] H → va_D (fun q : Nat => s.heap.size ≤ q) [(a0, .inr (0, [.ref a1, .ref a2, .int (nI rc), .int (nI bg), .ref a3, .int (nI ss), .ref a4, .int (nI hs), .int up, .int ch, .int wr])), (a1, .inl (k1, (500 * N), .inl f1)), (a2, .inl (k2, (125 * N + 1), .inl f2)), (a3, .inl (k3, 8000, .inl f3)), (a4, .inl (k4, 8000, .inl f4)), (b0, .inr (1, [.int (nI N), .int up, .int ch, .int wr, .int (nI bg), .int (nI (bg + tu)), .ref b1, .int (nI hs), .ref b2, .int (nI ss), .ref b3, .ref b4, .int (nI rc)])), (b1, .inl (o1, 8000, .inl g1)), (b2, .inl (o2, 8000, .inl g2)), (b3, .inl (o3, 16000, .inl g3)), (b4, .inl (o4, 4001, .inl g4))] → va_S (fun q : Nat => s.heap.size ≤ q) s.heap H locs → W p l e room_1 s m #[Value.ref b] below meth c H locs 600000 7302250 (lw_Z below #[Value.ref b] s) (F0 m 346 ls []) := by
        intro T rc bg ss hs tu up ch wr f1 f2 f3 f4 g1 g2 g3 g4 a3 a4 k3 k4 H locs hI hK hP hD hS
        refine lv_iinc (v := nI (i + 4)) (lv' := [(3, .int (nI (i + 4))), (0, .ref b), (1, .ref a0), (2, .ref b0)]) hx hb d_law_346 hl (k := 3) rfl (show nI i + nI 4 = nI (i + 4) from nI_add _ _) (by decide) rfl (fun ls hl => ?_)
        refine lv_goto (tgt := 28) hx hb d_law_349 (by decide) ?_
        exact ih (i + 4) (by omega) (by omega) (by omega) T rc bg ss hs tu up ch wr f1 f2 f3 f4 g1 g2 g3 g4 a3 a4 k3 k4 H locs hI hK hP hD hS ls (lv_sub hl [1, 2, 3, 0] rfl)
      refine lv_aload_n hx hb d_law_36 rfl (lv_at hl 0 rfl) ?_
      refine lv_iload_n hx hb d_law_37 rfl (lv_at hl 3 rfl) ?_
      refine va_sld hx hb hX hbl hbA hS (vp_in_nI (by omega) (by omega)) d_law_38 ?_
      refine xq_top (xs i) (by rw [nI_clamp (by omega)]) ?_
      refine lv_bipush (v := nI 15) hx hb d_law_39 (by decide +kernel) ?_
      refine lv_iand hx hb d_law_41 ?_
      obtain ⟨j, hj, ej⟩ := pk_andE (xs i) (m := nI 15) 4 (by decide +kernel)
      refine xq_top (nI j) ej ?_
      by_cases h_0 : j = 0
      · subst h_0
        refine lv_tableIn (off := 54) (tgt := 96) hx hb d_law_42 (by decide +kernel) (by decide +kernel) (by decide +kernel) (by decide) ?_
        exact law_0 hL C0 N a0 a1 a2 b0 b1 b2 b3 b4 k1 k2 o1 o2 o3 o4 i h1 hi4 ls hl KK T rc bg ss hs tu up ch wr f1 f2 f3 f4 g1 g2 g3 g4 a3 a4 k3 k4 H locs hI hK hP hD hS
      · by_cases h_1 : j = 1
        · subst h_1
          refine lv_tableIn (off := 117) (tgt := 159) hx hb d_law_42 (by decide +kernel) (by decide +kernel) (by decide +kernel) (by decide) ?_
          exact law_1 hL C0 N a0 a1 a2 b0 b1 b2 b3 b4 k1 k2 o1 o2 o3 o4 i h1 hi4 ls hl KK T rc bg ss hs tu up ch wr f1 f2 f3 f4 g1 g2 g3 g4 a3 a4 k3 k4 H locs hI hK hP hD hS
        · by_cases h_2 : j = 2
          · subst h_2
            refine lv_tableIn (off := 150) (tgt := 192) hx hb d_law_42 (by decide +kernel) (by decide +kernel) (by decide +kernel) (by decide) ?_
            exact law_2 hL C0 N a0 a1 a2 b0 b1 b2 b3 b4 k1 k2 o1 o2 o3 o4 i h1 hi4 ls hl KK T rc bg ss hs tu up ch wr f1 f2 f3 f4 g1 g2 g3 g4 a3 a4 k3 k4 H locs hI hK hP hD hS
          · by_cases h_3 : j = 3
            · subst h_3
              refine lv_tableIn (off := 163) (tgt := 205) hx hb d_law_42 (by decide +kernel) (by decide +kernel) (by decide +kernel) (by decide) ?_
              exact law_3 hL C0 N a0 a1 a2 b0 b1 b2 b3 b4 k1 k2 o1 o2 o3 o4 i h1 hi4 ls hl KK T rc bg ss hs tu up ch wr f1 f2 f3 f4 g1 g2 g3 g4 a3 a4 k3 k4 H locs hI hK hP hD hS
            · by_cases h_4 : j = 4
              · subst h_4
                refine lv_tableIn (off := 176) (tgt := 218) hx hb d_law_42 (by decide +kernel) (by decide +kernel) (by decide +kernel) (by decide) ?_
                exact law_4 hL C0 N a0 a1 a2 b0 b1 b2 b3 b4 k1 k2 o1 o2 o3 o4 i h1 hi4 ls hl KK T rc bg ss hs tu up ch wr f1 f2 f3 f4 g1 g2 g3 g4 a3 a4 k3 k4 H locs hI hK hP hD hS
              · by_cases h_5 : j = 5
                · subst h_5
                  refine lv_tableIn (off := 189) (tgt := 231) hx hb d_law_42 (by decide +kernel) (by decide +kernel) (by decide +kernel) (by decide) ?_
                  exact law_5 hL C0 N a0 a1 a2 b0 b1 b2 b3 b4 k1 k2 o1 o2 o3 o4 i h1 hi4 ls hl KK T rc bg ss hs tu up ch wr f1 f2 f3 f4 g1 g2 g3 g4 a3 a4 k3 k4 H locs hI hK hP hD hS
                · by_cases h_6 : j = 6
                  · subst h_6
                    refine lv_tableIn (off := 202) (tgt := 244) hx hb d_law_42 (by decide +kernel) (by decide +kernel) (by decide +kernel) (by decide) ?_
                    exact law_6 hL C0 N a0 a1 a2 b0 b1 b2 b3 b4 k1 k2 o1 o2 o3 o4 i h1 hi4 ls hl KK T rc bg ss hs tu up ch wr f1 f2 f3 f4 g1 g2 g3 g4 a3 a4 k3 k4 H locs hI hK hP hD hS
                  · by_cases h_7 : j = 7
                    · subst h_7
                      refine lv_tableIn (off := 225) (tgt := 267) hx hb d_law_42 (by decide +kernel) (by decide +kernel) (by decide +kernel) (by decide) ?_
                      exact law_7 hL C0 N a0 a1 a2 b0 b1 b2 b3 b4 k1 k2 o1 o2 o3 o4 i h1 hi4 ls hl KK T rc bg ss hs tu up ch wr f1 f2 f3 f4 g1 g2 g3 g4 a3 a4 k3 k4 H locs hI hK hP hD hS
                    · by_cases h_8 : j = 8
                      · subst h_8
                        refine lv_tableIn (off := 248) (tgt := 290) hx hb d_law_42 (by decide +kernel) (by decide +kernel) (by decide +kernel) (by decide) ?_
                        exact law_8 hL C0 N a0 a1 a2 b0 b1 b2 b3 b4 k1 k2 o1 o2 o3 o4 i h1 hi4 ls hl KK T rc bg ss hs tu up ch wr f1 f2 f3 f4 g1 g2 g3 g4 a3 a4 k3 k4 H locs hI hK hP hD hS
                      · by_cases h_9 : j = 9
                        · subst h_9
                          refine lv_tableIn (off := 281) (tgt := 323) hx hb d_law_42 (by decide +kernel) (by decide +kernel) (by decide +kernel) (by decide) ?_
                          exact law_9 hL C0 N a0 a1 a2 b0 b1 b2 b3 b4 k1 k2 o1 o2 o3 o4 i h1 hi4 ls hl KK T rc bg ss hs tu up ch wr f1 f2 f3 f4 g1 g2 g3 g4 a3 a4 k3 k4 H locs hI hK hP hD hS
                        · refine lv_tableOut (tgt := 346) hx hb d_law_42 (by rw [nI_toInt (by omega)]; omega) (by decide) ?_
                          exact KK T rc bg ss hs tu up ch wr f1 f2 f3 f4 g1 g2 g3 g4 a3 a4 k3 k4 H locs (zq_I_i hI) hK hP hD hS
