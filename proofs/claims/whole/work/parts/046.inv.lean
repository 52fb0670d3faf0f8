/-! the two sides, held against each other: what stands between their cells at every turn of the law, and that each call keeps it -/
def zq_I (N : Nat) (T : Nat → Nat) (i rc bg ss hs tu : Nat) (ch : Int32) (f1 f2 f3 f4 g1 g2 g3 g4 : Nat → Int32) : Prop :=
  (2 ≤ N ∧ N ≤ 32) ∧ (T 0 = 0 ∧ (∀ z, z < rc → T z + 4 ≤ T (z + 1)) ∧ T rc = tu ∧ tu ≤ 500 * N) ∧ ((∃ q : Nat, bg = 500 * q) ∧ bg ≤ 16000 * i) ∧ (ss ≤ 8000 ∧ hs ≤ 8000) ∧ zq_chok ch ∧
  ((∀ z, z ≤ rc → f2 z = nI (T z)) ∧ ∀ z, z ≤ rc → g4 z = nI (T z - 4 * z)) ∧
  (∀ k, k < rc → ∀ z, T k + 4 + z < T (k + 1) → f1 (T k + 4 + z) &&& nI 255 = g3 (T k - 4 * k + z)) ∧ (∀ z, z < ss → f3 z &&& nI 255 = g2 z) ∧ ∀ z, z < hs → zq_RB (f4 z) (g1 z)
theorem zq_T4 {T : Nat → Nat} {rc : Nat} (h0 : T 0 = 0) (hM : ∀ z, z < rc → T z + 4 ≤ T (z + 1)) : ∀ z, z ≤ rc → 4 * z ≤ T z := by
  intro z
  induction z with
  | zero => intro _; omega
  | succ z ih =>
    intro hz
    have h1 := ih (by omega)
    have h2 := hM z (by omega)
    omega
theorem zq_Tm {T : Nat → Nat} {rc : Nat} (hM : ∀ z, z < rc → T z + 4 ≤ T (z + 1)) : ∀ d z, z + d = rc → T z ≤ T rc := by
  intro d
  induction d with
  | zero => intro z hz; rw [← hz]; exact Nat.le_refl _
  | succ d ih =>
    intro z hz
    have h1 := ih (z + 1) (by omega)
    have h2 := hM z (by omega)
    omega
theorem zq_Tle {T : Nat → Nat} {rc tu : Nat} (hM : ∀ z, z < rc → T z + 4 ≤ T (z + 1)) (ht : T rc = tu) : ∀ z, z ≤ rc → T z ≤ tu := fun z hz => by
  have := zq_Tm hM (rc - z) z (by omega)
  omega
theorem zq_Tg {T : Nat → Nat} {rc : Nat} (hM : ∀ z, z < rc → T z + 4 ≤ T (z + 1)) : ∀ d z, z + d = rc → T z + 4 * d ≤ T rc := by
  intro d
  induction d with
  | zero => intro z hz; rw [← hz]; exact Nat.le_refl _
  | succ d ih =>
    intro z hz
    have h1 := ih (z + 1) (by omega)
    have h2 := hM z (by omega)
    omega
theorem zq_Tg4 {T : Nat → Nat} {rc tu : Nat} (hM : ∀ z, z < rc → T z + 4 ≤ T (z + 1)) (ht : T rc = tu) (k : Nat) (hk : k < rc) : T (k + 1) + 4 * (rc - (k + 1)) ≤ tu := by
  have := zq_Tg hM (rc - (k + 1)) (k + 1) (by omega)
  omega
/-- nothing has changed but the turn, and the charge -/
theorem zq_I_ch {N : Nat} {T : Nat → Nat} {i rc bg ss hs tu : Nat} {ch ch' : Int32} {f1 f2 f3 f4 g1 g2 g3 g4 : Nat → Int32} (h : zq_I N T i rc bg ss hs tu ch f1 f2 f3 f4 g1 g2 g3 g4) (hc : zq_chok ch') : zq_I N T (i + 4) rc bg ss hs tu ch' f1 f2 f3 f4 g1 g2 g3 g4 := by
  obtain ⟨h1, h2, ⟨h3, h4⟩, h5, -, h6, h7, h8, h9⟩ := h
  exact ⟨h1, h2, ⟨h3, by omega⟩, h5, hc, h6, h7, h8, h9⟩
theorem zq_I_i {N : Nat} {T : Nat → Nat} {i rc bg ss hs tu : Nat} {ch : Int32} {f1 f2 f3 f4 g1 g2 g3 g4 : Nat → Int32} (h : zq_I N T i rc bg ss hs tu ch f1 f2 f3 f4 g1 g2 g3 g4) : zq_I N T (i + 4) rc bg ss hs tu ch f1 f2 f3 f4 g1 g2 g3 g4 := zq_I_ch h h.2.2.2.2.1
/-- no byte is in hand any more -/
theorem zq_I_0 {N : Nat} {T : Nat → Nat} {i rc bg ss hs tu : Nat} {ch ch' : Int32} {f1 f2 f3 f4 g1 g2 g3 g4 : Nat → Int32} (h : zq_I N T i rc bg ss hs tu ch f1 f2 f3 f4 g1 g2 g3 g4) (hc : zq_chok ch') : zq_I N T (i + 4) rc bg ss 0 tu ch' f1 f2 f3 f4 g1 g2 g3 g4 := by
  obtain ⟨h1, h2, ⟨h3, h4⟩, ⟨h5, h5'⟩, -, h6, h7, h8, -⟩ := h
  exact ⟨h1, h2, ⟨h3, by omega⟩, ⟨h5, by omega⟩, hc, h6, h7, h8, fun z hz => absurd hz (Nat.not_lt_zero z)⟩
/-- a writing of blocks on both sides: they answer alike -/
theorem zq_I_wb {N : Nat} {T : Nat → Nat} {i rc bg ss hs tu n : Nat} {up ch wr r up1 ch1 wr1 : Int32} {hs1 : Nat} {f1 f2 f3 f4 g1 g2 g3 g4 : Nat → Int32} (h : zq_I N T i rc bg ss hs tu ch f1 f2 f3 f4 g1 g2 g3 g4) (hn : n ≤ 1000) (hw : (r, up1, hs1, ch1, wr1) = zq_wb up hs ch wr (nI n)) : zq_I N T (i + 4) rc bg ss hs1 tu ch1 f1 f2 f3 f4 g1 g2 g3 g4 := by
  have hc := zq_chok_wb h.2.2.2.2.1 hn hw
  rcases zq_wb_r hw with ⟨-, -, e, -⟩ | ⟨-, -, e⟩
  · rw [e]; exact zq_I_0 h hc
  · rw [e]; exact zq_I_ch h hc
theorem zq_wb_eq {up ch wr n r r' up1 ch1 wr1 up2 ch2 wr2 : Int32} {hs hs1 hs2 : Nat} (h : (r, up1, hs1, ch1, wr1) = zq_wb up hs ch wr n) (h2 : (r', up2, hs2, ch2, wr2) = zq_wb up hs ch wr n) : r = r' ∧ up1 = up2 ∧ hs1 = hs2 ∧ ch1 = ch2 ∧ wr1 = wr2 := by
  have q := h.trans h2.symm
  simp only [Prod.mk.injEq] at q
  exact q
/-- bytes that come behind those in hand -/
theorem zq_p_put {N : Nat} {T : Nat → Nat} {i rc bg ss hs tu mx k : Nat} {up ch n r1 r2 : Int32} {f1 f2 f3 f4 g1 g2 g3 g4 gD gM : Nat → Int32} {hs1 hs2 : Nat} {fa ga : Nat → Int32} (hI : zq_I N T i rc bg ss hs tu ch f1 f2 f3 f4 g1 g2 g3 g4) (hk : n.toNatClampNeg = k)
    (h1 : (zq_okP up hs mx n ∧ r1 = nI 1 ∧ hs1 = hs + k ∧ zq_app f4 fa hs k gD) ∨ (¬ zq_okP up hs mx n ∧ r1 = nI 0 ∧ (hs1, fa) = (hs, f4)))
    (h2 : (zq_okP up hs mx n ∧ r2 = nI 1 ∧ hs2 = hs + k ∧ zq_app g1 ga hs k gM) ∨ (¬ zq_okP up hs mx n ∧ r2 = nI 0 ∧ (hs2, ga) = (hs, g1))) (hR : ∀ z, zq_RB (gD z) (gM z)) :
    r1 = r2 ∧ hs1 = hs2 ∧ zq_I N T (i + 4) rc bg ss hs1 tu ch f1 f2 f3 fa ga g2 g3 g4 := by
  rcases h1 with ⟨ok, e1, e2, e3⟩ | ⟨ok, e1, e2⟩
  · rcases h2 with ⟨-, d1, d2, d3⟩ | ⟨no, -⟩
    · refine ⟨e1.trans d1.symm, e2.trans d2.symm, ?_⟩
      obtain ⟨q1, q2, ⟨q3, q4⟩, ⟨q5, q5'⟩, q6, q7, q8, q9, q10⟩ := hI
      obtain ⟨-, o1, -, o3⟩ := ok
      obtain ⟨j, -, -, j2, j3⟩ := xq_nat (x := n) (by omega)
      refine ⟨q1, q2, ⟨q3, by omega⟩, ⟨q5, by omega⟩, q6, q7, q8, q9, fun z hz => ?_⟩
      by_cases hz2 : z < hs
      · rw [e3.1 z hz2, d3.1 z hz2]; exact q10 z hz2
      · obtain ⟨y, rfl⟩ : ∃ y, z = hs + y := ⟨z - hs, by omega⟩
        rw [e3.2 y (by omega), d3.2 y (by omega)]
        exact hR y
    · exact absurd ok no
  · rcases h2 with ⟨yes, -⟩ | ⟨-, d1, d2⟩
    · exact absurd yes ok
    · simp only [Prod.mk.injEq] at e2 d2
      obtain ⟨rfl, rfl⟩ := e2
      obtain ⟨rfl, rfl⟩ := d2
      exact ⟨e1.trans d1.symm, rfl, zq_I_i hI⟩
theorem zq_p_cut {N : Nat} {T : Nat → Nat} {i rc bg ss hs tu : Nat} {up ch wr r1 r2 up1 ch1 wr1 up2 ch2 wr2 : Int32} {hs1 hs2 : Nat} {f1 f2 f3 f4 g1 g2 g3 g4 : Nat → Int32} (hI : zq_I N T i rc bg ss hs tu ch f1 f2 f3 f4 g1 g2 g3 g4)
    (h1 : (up = 0 ∧ r1 = nI 0 ∧ (up1, hs1, ch1, wr1) = (up, hs, ch, wr)) ∨ (¬ up = 0 ∧ r1 = nI 1 ∧ (up1, hs1, ch1, wr1) = (nI 0, 0, -1, wr)))
    (h2 : (up = 0 ∧ r2 = nI 0 ∧ (up2, hs2, ch2, wr2) = (up, hs, ch, wr)) ∨ (¬ up = 0 ∧ r2 = nI 1 ∧ (up2, hs2, ch2, wr2) = (nI 0, 0, -1, wr))) :
    r1 = r2 ∧ up1 = up2 ∧ hs1 = hs2 ∧ ch1 = ch2 ∧ wr1 = wr2 ∧ zq_I N T (i + 4) rc bg ss hs1 tu ch1 f1 f2 f3 f4 g1 g2 g3 g4 := by
  rcases h1 with ⟨u1, e1, e2⟩ | ⟨u1, e1, e2⟩
  · rcases h2 with ⟨-, d1, d2⟩ | ⟨u2, -⟩
    · have q := e2.trans d2.symm
      simp only [Prod.mk.injEq] at q e2
      exact ⟨e1.trans d1.symm, q.1, q.2.1, q.2.2.1, q.2.2.2, by rw [e2.2.1, e2.2.2.1]; exact zq_I_i hI⟩
    · exact absurd u1 u2
  · rcases h2 with ⟨u2, -⟩ | ⟨-, d1, d2⟩
    · exact absurd u2 u1
    · have q := e2.trans d2.symm
      simp only [Prod.mk.injEq] at q e2
      exact ⟨e1.trans d1.symm, q.1, q.2.1, q.2.2.1, q.2.2.2, by rw [e2.2.1, e2.2.2.1]; exact zq_I_0 hI (Or.inl rfl)⟩
theorem zq_p_start {N : Nat} {T : Nat → Nat} {i rc bg ss hs tu : Nat} {up ch wr r1 r2 up1 ch1 wr1 up2 ch2 wr2 : Int32} {hs1 hs2 : Nat} {f1 f2 f3 f4 g1 g2 g3 g4 : Nat → Int32} (hI : zq_I N T i rc bg ss hs tu ch f1 f2 f3 f4 g1 g2 g3 g4)
    (h1 : (¬ up = 0 ∧ r1 = nI 0 ∧ (up1, hs1, ch1, wr1) = (up, hs, ch, wr)) ∨ (up = 0 ∧ r1 = nI 2 ∧ (nI 0, up1, hs1, ch1, wr1) = zq_wb up hs ch wr (nI 1)) ∨ (up = 0 ∧ r1 = nI 1 ∧ ∃ v : Int32, (nI 1, v, hs1, ch1, wr1) = zq_wb up hs ch wr (nI 1) ∧ up1 = nI 1))
    (h2 : (¬ up = 0 ∧ r2 = nI 0 ∧ (up2, hs2, ch2, wr2) = (up, hs, ch, wr)) ∨ (up = 0 ∧ r2 = nI 2 ∧ (nI 0, up2, hs2, ch2, wr2) = zq_wb up hs ch wr (nI 1)) ∨ (up = 0 ∧ r2 = nI 1 ∧ ∃ v : Int32, (nI 1, v, hs2, ch2, wr2) = zq_wb up hs ch wr (nI 1) ∧ up2 = nI 1)) :
    r1 = r2 ∧ up1 = up2 ∧ hs1 = hs2 ∧ ch1 = ch2 ∧ wr1 = wr2 ∧ zq_I N T (i + 4) rc bg ss hs1 tu ch1 f1 f2 f3 f4 g1 g2 g3 g4 := by
  rcases h1 with ⟨u1, e1, e2⟩ | ⟨u1, e1, e2⟩ | ⟨u1, e1, v1, e2, e3⟩
  · rcases h2 with ⟨-, d1, d2⟩ | ⟨u2, -⟩ | ⟨u2, -⟩
    · have q := e2.trans d2.symm
      simp only [Prod.mk.injEq] at q e2
      exact ⟨e1.trans d1.symm, q.1, q.2.1, q.2.2.1, q.2.2.2, by rw [e2.2.1, e2.2.2.1]; exact zq_I_i hI⟩
    · exact absurd u2 u1
    · exact absurd u2 u1
  · rcases h2 with ⟨u2, -⟩ | ⟨-, d1, d2⟩ | ⟨-, -, v2, d2, -⟩
    · exact absurd u1 u2
    · obtain ⟨-, q1, q2, q3, q4⟩ := zq_wb_eq e2 d2
      exact ⟨e1.trans d1.symm, q1, q2, q3, q4, zq_I_wb hI (by omega) e2⟩
    · exact absurd (zq_wb_eq e2 d2).1 zq_01
  · rcases h2 with ⟨u2, -⟩ | ⟨-, -, d2⟩ | ⟨-, d1, v2, d2, d3⟩
    · exact absurd u1 u2
    · exact absurd (zq_wb_eq d2 e2).1 zq_01
    · obtain ⟨-, q1, q2, q3, q4⟩ := zq_wb_eq e2 d2
      exact ⟨e1.trans d1.symm, e3.trans d3.symm, q2, q3, q4, zq_I_wb hI (by omega) e2⟩
theorem zq_p_charge {N : Nat} {T : Nat → Nat} {i rc bg ss hs tu : Nat} {ch n r1 r2 ch1 ch2 : Int32} {f1 f2 f3 f4 g1 g2 g3 g4 : Nat → Int32} (hI : zq_I N T i rc bg ss hs tu ch f1 f2 f3 f4 g1 g2 g3 g4)
    (h1 : (0 ≤ n.toInt ∧ n.toInt ≤ 999 ∧ r1 = nI 1 ∧ ch1 = n) ∨ (¬ (0 ≤ n.toInt ∧ n.toInt ≤ 999) ∧ r1 = nI 0 ∧ ch1 = ch)) (h2 : (0 ≤ n.toInt ∧ n.toInt ≤ 999 ∧ r2 = nI 1 ∧ ch2 = n) ∨ (¬ (0 ≤ n.toInt ∧ n.toInt ≤ 999) ∧ r2 = nI 0 ∧ ch2 = ch)) :
    r1 = r2 ∧ ch1 = ch2 ∧ zq_I N T (i + 4) rc bg ss hs tu ch1 f1 f2 f3 f4 g1 g2 g3 g4 := by
  rcases h1 with ⟨a1, a2, e1, e2⟩ | ⟨a1, e1, e2⟩
  · rcases h2 with ⟨-, -, d1, d2⟩ | ⟨no, -⟩
    · refine ⟨e1.trans d1.symm, e2.trans d2.symm, zq_I_ch hI ?_⟩
      obtain ⟨j, -, j1, j2, -⟩ := xq_nat (x := n) a1
      exact Or.inr ⟨j, by omega, e2.trans j1⟩
    · exact absurd ⟨a1, a2⟩ no
  · rcases h2 with ⟨b1, b2, -⟩ | ⟨-, d1, d2⟩
    · exact absurd ⟨b1, b2⟩ a1
    · exact ⟨e1.trans d1.symm, e2.trans d2.symm, by rw [e2]; exact zq_I_i hI⟩
/-- where the starts are behind a new record -/
def zq_T (T : Nat → Nat) (rc v : Nat) : Nat → Nat := fun z => if z ≤ rc then T z else v
theorem zq_I_rec {N : Nat} {T : Nat → Nat} {i rc bg ss hs tu : Nat} {ch ch1 : Int32} {f1 f2 f3 f4 g1 g2 g3 g4 fx gx : Nat → Int32} (hI : zq_I N T i rc bg ss hs tu ch f1 f2 f3 f4 g1 g2 g3 g4) (hc : zq_chok ch1) (hf : tu + 4 + hs ≤ 500 * N)
    (ha : zq_app f1 fx (tu + 4) hs f4) (hb : zq_app g3 gx (tu - 4 * rc) hs g1) :
    zq_I N (zq_T T rc (tu + 4 + hs)) (i + 4) (rc + 1) bg ss 0 (tu + 4 + hs) ch1 fx (upd f2 (rc + 1) (nI (tu + 4 + hs))) f3 f4 g1 g2 gx (upd g4 (rc + 1) (nI (tu - 4 * rc + hs))) := by
  obtain ⟨q1, ⟨t0, tM, tR, tB⟩, ⟨q3, q4⟩, ⟨q5, q5'⟩, -, ⟨s2, s4⟩, q8, q9, q10⟩ := hI
  have h4 := zq_T4 t0 tM
  have hle := zq_Tle tM tR
  have h4r := h4 rc (Nat.le_refl _)
  rw [tR] at h4r
  have lo : ∀ z, z ≤ rc → zq_T T rc (tu + 4 + hs) z = T z := fun z hz => if_pos hz
  have hi : zq_T T rc (tu + 4 + hs) (rc + 1) = tu + 4 + hs := if_neg (by omega)
  refine ⟨q1, ⟨?_, ?_, hi, hf⟩, ⟨q3, by omega⟩, ⟨q5, by omega⟩, hc, ⟨?_, ?_⟩, ?_, q9, fun z hz => absurd hz (Nat.not_lt_zero z)⟩
  · rw [lo 0 (by omega)]; exact t0
  · intro z hz
    by_cases hz2 : z = rc
    · subst hz2
      rw [lo _ (Nat.le_refl _), hi, tR]; omega
    · rw [lo z (by omega), lo (z + 1) (by omega)]
      exact tM z (by omega)
  · intro z hz
    by_cases hz2 : z = rc + 1
    · subst hz2; rw [pk_us, hi]
    · rw [pk_un hz2, lo z (by omega)]; exact s2 z (by omega)
  · intro z hz
    by_cases hz2 : z = rc + 1
    · subst hz2; rw [pk_us, hi]; exact congrArg nI (by omega)
    · rw [pk_un hz2, lo z (by omega)]; exact s4 z (by omega)
  · intro k hk z hz
    by_cases hk2 : k = rc
    · subst hk2
      rw [lo _ (Nat.le_refl _)] at hz ⊢
      rw [hi] at hz
      rw [tR] at hz ⊢
      rw [ha.2 z (by omega), hb.2 z (by omega)]
      exact zq_RB_and (q10 z (by omega))
    · rw [lo k (by omega)] at hz ⊢
      rw [lo (k + 1) (by omega)] at hz
      have b1 := hle (k + 1) (by omega)
      have b2 := h4 k (by omega)
      have b3 := tM k (by omega)
      have b4 := zq_Tg4 tM tR k (by omega)
      rw [ha.1 _ (by omega), hb.1 _ (by omega)]
      exact q8 k (by omega) z hz
theorem zq_p_rec {N : Nat} {T : Nat → Nat} {i rc bg ss hs tu : Nat} {up ch wr r1 r2 up1 ch1 wr1 up2 ch2 wr2 : Int32} {rc1 rc2 hs1 hs2 en2 : Nat} {f1 f2 f3 f4 g1 g2 g3 g4 fx fy gx gy : Nat → Int32} (hI : zq_I N T i rc bg ss hs tu ch f1 f2 f3 f4 g1 g2 g3 g4)
    (h1 : ((up = 0 ∨ 500 * N < tu + 4 + hs) ∧ r1 = nI 0 ∧ (rc1, up1, hs1, ch1, wr1, fx, fy) = (rc, up, hs, ch, wr, f1, f2)) ∨
      (¬ up = 0 ∧ tu + 4 + hs ≤ 500 * N ∧ r1 = nI 2 ∧ ∃ (up1' : Int32) (hs1' : Nat) (ch1' wr1' : Int32), (nI 0, up1', hs1', ch1', wr1') = zq_wb up hs ch wr (nI ((tu + 4 + hs - 1) / 500 - (tu / 500) + 1)) ∧ (rc1, up1, hs1, ch1, wr1, fx, fy) = (rc, up1', hs1', ch1', wr1', f1, f2)) ∨
      (¬ up = 0 ∧ tu + 4 + hs ≤ 500 * N ∧ r1 = nI 1 ∧ ∃ (up1' ch1' wr1' : Int32) (fz : Nat → Int32), (nI 1, up1', hs, ch1', wr1') = zq_wb up hs ch wr (nI ((tu + 4 + hs - 1) / 500 - (tu / 500) + 1)) ∧ zq_app f1 fz (tu + 4) hs f4 ∧ (rc1, up1, hs1, ch1, wr1, fx, fy) = (rc + 1, up1', 0, ch1', wr1', fz, upd f2 (rc + 1) (nI (tu + 4 + hs)))))
    (h2 : ((up = 0 ∨ 500 * N < tu + 4 + hs) ∧ r2 = nI 0 ∧ (rc2, en2, up2, hs2, ch2, wr2, gx, gy) = (rc, bg + tu, up, hs, ch, wr, g3, g4)) ∨
      (¬ up = 0 ∧ tu + 4 + hs ≤ 500 * N ∧ r2 = nI 2 ∧ ∃ (up1' : Int32) (hs1' : Nat) (ch1' wr1' : Int32), (nI 0, up1', hs1', ch1', wr1') = zq_wb up hs ch wr (nI ((tu + 4 + hs - 1) / 500 - (tu / 500) + 1)) ∧ (rc2, en2, up2, hs2, ch2, wr2, gx, gy) = (rc, bg + tu, up1', hs1', ch1', wr1', g3, g4)) ∨
      (¬ up = 0 ∧ tu + 4 + hs ≤ 500 * N ∧ r2 = nI 1 ∧ ∃ (up1' ch1' wr1' : Int32) (fz : Nat → Int32), (nI 1, up1', hs, ch1', wr1') = zq_wb up hs ch wr (nI ((tu + 4 + hs - 1) / 500 - (tu / 500) + 1)) ∧ zq_app g3 fz (tu - 4 * rc) hs g1 ∧ (rc2, en2, up2, hs2, ch2, wr2, gx, gy) = (rc + 1, bg + (tu + 4 + hs), up1', 0, ch1', wr1', fz, upd g4 (rc + 1) (nI (tu - 4 * rc + hs))))) :
    r1 = r2 ∧ rc1 = rc2 ∧ up1 = up2 ∧ hs1 = hs2 ∧ ch1 = ch2 ∧ wr1 = wr2 ∧ ∃ (T' : Nat → Nat) (tu' : Nat), en2 = bg + tu' ∧ zq_I N T' (i + 4) rc1 bg ss hs1 tu' ch1 fx fy f3 f4 g1 g2 gx gy := by
  have hN := hI.1
  have hh := hI.2.2.2.1
  rcases h1 with ⟨u1, e1, e2⟩ | ⟨u1, v1, e1, ua, ha, ca, wa, e2, e3⟩ | ⟨u1, v1, e1, ua, ca, wa, fa, e2, e4, e3⟩
  · rcases h2 with ⟨-, d1, d2⟩ | ⟨u2, v2, -⟩ | ⟨u2, v2, -⟩
    · simp only [Prod.mk.injEq] at e2 d2
      obtain ⟨rfl, rfl, rfl, rfl, rfl, rfl, rfl⟩ := e2
      obtain ⟨rfl, rfl, rfl, rfl, rfl, rfl, rfl, rfl⟩ := d2
      exact ⟨e1.trans d1.symm, rfl, rfl, rfl, rfl, rfl, T, tu, rfl, zq_I_i hI⟩
    · rcases u1 with q | q
      · exact absurd q u2
      · omega
    · rcases u1 with q | q
      · exact absurd q u2
      · omega
  · rcases h2 with ⟨u2, -⟩ | ⟨-, -, d1, ub, hb, cb, wb', d2, d3⟩ | ⟨-, -, -, ub, cb, wb', fb, d2, -⟩
    · rcases u2 with q | q
      · exact absurd q u1
      · omega
    · obtain ⟨-, q1, q2, q3, q4⟩ := zq_wb_eq e2 d2
      subst q1; subst q2; subst q3; subst q4
      simp only [Prod.mk.injEq] at e3 d3
      obtain ⟨rfl, rfl, rfl, rfl, rfl, rfl, rfl⟩ := e3
      obtain ⟨rfl, rfl, rfl, rfl, rfl, rfl, rfl, rfl⟩ := d3
      exact ⟨e1.trans d1.symm, rfl, rfl, rfl, rfl, rfl, T, tu, rfl, zq_I_wb hI (by omega) e2⟩
    · exact absurd (zq_wb_eq e2 d2).1 zq_01
  · rcases h2 with ⟨u2, -⟩ | ⟨-, -, -, ub, hb, cb, wb', d2, -⟩ | ⟨-, -, d1, ub, cb, wb', fb, d2, d4, d3⟩
    · rcases u2 with q | q
      · exact absurd q u1
      · omega
    · exact absurd (zq_wb_eq d2 e2).1 zq_01
    · obtain ⟨-, q1, -, q3, q4⟩ := zq_wb_eq e2 d2
      subst q1; subst q3; subst q4
      have hc := zq_chok_wb hI.2.2.2.2.1 (by omega) e2
      simp only [Prod.mk.injEq] at e3 d3
      obtain ⟨rfl, rfl, rfl, rfl, rfl, rfl, rfl⟩ := e3
      obtain ⟨rfl, rfl, rfl, rfl, rfl, rfl, rfl, rfl⟩ := d3
      exact ⟨e1.trans d1.symm, rfl, rfl, rfl, rfl, rfl, _, _, rfl, zq_I_rec hI hc v1 e4 d4⟩
theorem zq_p_snap {N : Nat} {T : Nat → Nat} {i rc bg ss hs tu : Nat} {up ch wr r1 r2 up1 ch1 wr1 up2 ch2 wr2 : Int32} {rc1 rc2 hs1 hs2 bg1 bg2 ss1 ss2 en2 x3 x4 a3 a4 : Nat} {f1 f2 f3 f4 g1 g2 g3 g4 gx : Nat → Int32} (hI : zq_I N T i rc bg ss hs tu ch f1 f2 f3 f4 g1 g2 g3 g4)
    (h1 : (up = 0 ∧ r1 = nI 0 ∧ (rc1, bg1, ss1, x3, x4, up1, hs1, ch1, wr1) = (rc, bg, ss, a3, a4, up, hs, ch, wr)) ∨
      (¬ up = 0 ∧ r1 = nI 2 ∧ ∃ (up1' : Int32) (hs1' : Nat) (ch1' wr1' : Int32), (nI 0, up1', hs1', ch1', wr1') = zq_wb up hs ch wr (nI ((hs + 500 - 1) / 500 + 1)) ∧ (rc1, bg1, ss1, x3, x4, up1, hs1, ch1, wr1) = (rc, bg, ss, a3, a4, up1', hs1', ch1', wr1')) ∨
      (¬ up = 0 ∧ r1 = nI 1 ∧ ∃ (up1' ch1' wr1' : Int32), (nI 1, up1', hs, ch1', wr1') = zq_wb up hs ch wr (nI ((hs + 500 - 1) / 500 + 1)) ∧ (rc1, bg1, ss1, x3, x4, up1, hs1, ch1, wr1) = (0, bg + (tu + 500 - 1) / 500 * 500, hs, a4, a3, up1', 0, ch1', wr1')))
    (h2 : (up = 0 ∧ r2 = nI 0 ∧ (rc2, bg2, en2, ss2, up2, hs2, ch2, wr2, gx) = (rc, bg, bg + tu, ss, up, hs, ch, wr, g2)) ∨
      (¬ up = 0 ∧ r2 = nI 2 ∧ ∃ (up1' : Int32) (hs1' : Nat) (ch1' wr1' : Int32), (nI 0, up1', hs1', ch1', wr1') = zq_wb up hs ch wr (nI ((hs + 500 - 1) / 500 + 1)) ∧ (rc2, bg2, en2, ss2, up2, hs2, ch2, wr2, gx) = (rc, bg, bg + tu, ss, up1', hs1', ch1', wr1', g2)) ∨
      (¬ up = 0 ∧ r2 = nI 1 ∧ ∃ (up1' ch1' wr1' : Int32) (fz : Nat → Int32), (nI 1, up1', hs, ch1', wr1') = zq_wb up hs ch wr (nI ((hs + 500 - 1) / 500 + 1)) ∧ zq_app g2 fz 0 hs g1 ∧ (rc2, bg2, en2, ss2, up2, hs2, ch2, wr2, gx) = (0, bg + (tu + 500 - 1) / 500 * 500, bg + (tu + 500 - 1) / 500 * 500, hs, up1', 0, ch1', wr1', fz))) :
    r1 = r2 ∧ rc1 = rc2 ∧ bg1 = bg2 ∧ ss1 = ss2 ∧ up1 = up2 ∧ hs1 = hs2 ∧ ch1 = ch2 ∧ wr1 = wr2 ∧ ∃ (T' : Nat → Nat) (tu' : Nat), en2 = bg1 + tu' ∧
      ((a3 = x3 ∧ a4 = x4 ∧ zq_I N T' (i + 4) rc1 bg1 ss1 hs1 tu' ch1 f1 f2 f3 f4 g1 gx g3 g4) ∨ (a4 = x3 ∧ a3 = x4 ∧ zq_I N T' (i + 4) rc1 bg1 ss1 hs1 tu' ch1 f1 f2 f4 f3 g1 gx g3 g4)) := by
  have hh := hI.2.2.2.1
  rcases h1 with ⟨u1, e1, e2⟩ | ⟨u1, e1, ua, ha, ca, wa, e2, e3⟩ | ⟨u1, e1, ua, ca, wa, e2, e3⟩
  · rcases h2 with ⟨-, d1, d2⟩ | ⟨u2, -⟩ | ⟨u2, -⟩
    · simp only [Prod.mk.injEq] at e2 d2
      obtain ⟨rfl, rfl, rfl, rfl, rfl, rfl, rfl, rfl, rfl⟩ := e2
      obtain ⟨rfl, rfl, rfl, rfl, rfl, rfl, rfl, rfl, rfl⟩ := d2
      exact ⟨e1.trans d1.symm, rfl, rfl, rfl, rfl, rfl, rfl, rfl, T, tu, rfl, Or.inl ⟨rfl, rfl, zq_I_i hI⟩⟩
    · exact absurd u1 u2
    · exact absurd u1 u2
  · rcases h2 with ⟨u2, -⟩ | ⟨-, d1, ub, hb, cb, wb', d2, d3⟩ | ⟨-, -, ub, cb, wb', fb, d2, -⟩
    · exact absurd u2 u1
    · obtain ⟨-, q1, q2, q3, q4⟩ := zq_wb_eq e2 d2
      subst q1; subst q2; subst q3; subst q4
      simp only [Prod.mk.injEq] at e3 d3
      obtain ⟨rfl, rfl, rfl, rfl, rfl, rfl, rfl, rfl, rfl⟩ := e3
      obtain ⟨rfl, rfl, rfl, rfl, rfl, rfl, rfl, rfl, rfl⟩ := d3
      exact ⟨e1.trans d1.symm, rfl, rfl, rfl, rfl, rfl, rfl, rfl, T, tu, rfl, Or.inl ⟨rfl, rfl, zq_I_wb hI (by omega) e2⟩⟩
    · exact absurd (zq_wb_eq e2 d2).1 zq_01
  · rcases h2 with ⟨u2, -⟩ | ⟨-, -, ub, hb, cb, wb', d2, -⟩ | ⟨-, d1, ub, cb, wb', fb, d2, d4, d3⟩
    · exact absurd u2 u1
    · exact absurd (zq_wb_eq d2 e2).1 zq_01
    · obtain ⟨-, q1, -, q3, q4⟩ := zq_wb_eq e2 d2
      subst q1; subst q3; subst q4
      have hc := zq_chok_wb hI.2.2.2.2.1 (by omega) e2
      simp only [Prod.mk.injEq] at e3 d3
      obtain ⟨rfl, rfl, rfl, rfl, rfl, rfl, rfl, rfl, rfl⟩ := e3
      obtain ⟨rfl, rfl, rfl, rfl, rfl, rfl, rfl, rfl, rfl⟩ := d3
      refine ⟨e1.trans d1.symm, rfl, rfl, rfl, rfl, rfl, rfl, rfl, fun _ => 0, 0, rfl, Or.inr ⟨rfl, rfl, ?_⟩⟩
      obtain ⟨q1, ⟨t0, tM, tR, tB⟩, ⟨⟨qq, q3⟩, q4⟩, ⟨q5, q5'⟩, -, ⟨s2, s4⟩, q8, q9, q10⟩ := hI
      refine ⟨q1, ⟨rfl, fun z hz => absurd hz (Nat.not_lt_zero z), rfl, by omega⟩, ⟨⟨qq + (tu + 500 - 1) / 500, by omega⟩, by omega⟩, ⟨q5', by omega⟩, hc, ⟨?_, ?_⟩, fun k hk => absurd hk (Nat.not_lt_zero k), ?_, fun z hz => absurd hz (Nat.not_lt_zero z)⟩
      · intro z hz
        obtain rfl : z = 0 := by omega
        rw [s2 0 (by omega), t0]
      · intro z hz
        obtain rfl : z = 0 := by omega
        rw [s4 0 (by omega), t0]
      · intro z hz
        have h9 := d4.2 z hz
        rw [Nat.zero_add] at h9
        rw [h9]
        exact zq_RB_and (q10 z hz)
theorem zq_I_init {N : Nat} (h : 2 ≤ N ∧ N ≤ 32) : zq_I N (fun _ => 0) 1 0 0 0 0 0 (-1) (fun _ => 0) (fun _ => 0) (fun _ => 0) (fun _ => 0) (fun _ => 0) (fun _ => 0) (fun _ => 0) (fun _ => 0) := by
  refine ⟨h, ⟨rfl, fun z hz => absurd hz (Nat.not_lt_zero z), rfl, by omega⟩, ⟨⟨0, rfl⟩, by omega⟩, ⟨by omega, by omega⟩, Or.inl rfl, ⟨fun z hz => ?_, fun z hz => ?_⟩, fun k hk => absurd hk (Nat.not_lt_zero k), fun z hz => absurd hz (Nat.not_lt_zero z), fun z hz => absurd hz (Nat.not_lt_zero z)⟩
  · exact nI_0.symm
  · show (0 : Int32) = nI (0 - 4 * z)
    rw [Nat.zero_sub]
    exact nI_0.symm
