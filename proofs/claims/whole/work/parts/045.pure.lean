/-! numbers, and what both sides' methods answer, as functions of the numbers that they share -/
section XQ
variable {p : Program} {l : Launch} {e : Env} {R : Room} {s : State} {m : MethodId} {args : Array Value} {below : List Frame} {meth : Method} {c : Code} {H : Heap} {locs : List Loc} {cells slots : Nat} {Q : State → Prop}
variable {pc : Nat} {ls : Array Slot} {rest : List Value}
theorem xq_top {x : Int32} (y : Int32) (h : x = y) (k : W p l e R s m args below meth c H locs cells slots Q (F0 m pc ls (.int y :: rest))) : W p l e R s m args below meth c H locs cells slots Q (F0 m pc ls (.int x :: rest)) := by
  rw [h]; exact k
end XQ
theorem xq_lt {x y : Int32} : x < y ↔ x.toInt < y.toInt := Int32.lt_iff_toInt_lt
theorem xq_le {x y : Int32} : x ≤ y ↔ x.toInt ≤ y.toInt := Int32.le_iff_toInt_le
theorem xq_m1T : (-1 : Int32).toInt = -1 := by decide +kernel
theorem xq_lt_r {x : Int32} {a : Nat} (h : a < 2 ^ 31) : x < nI a ↔ x.toInt < (a : Int) := by rw [xq_lt, nI_toInt h]
theorem xq_lt_l {x : Int32} {a : Nat} (h : a < 2 ^ 31) : nI a < x ↔ (a : Int) < x.toInt := by rw [xq_lt, nI_toInt h]
theorem xq_le_r {x : Int32} {a : Nat} (h : a < 2 ^ 31) : x ≤ nI a ↔ x.toInt ≤ (a : Int) := by rw [xq_le, nI_toInt h]
theorem xq_le_l {x : Int32} {a : Nat} (h : a < 2 ^ 31) : nI a ≤ x ↔ (a : Int) ≤ x.toInt := by rw [xq_le, nI_toInt h]
theorem xq_lt_0r {x : Int32} : x < 0 ↔ x.toInt < 0 := by rw [xq_lt, Int32.toInt_zero]
theorem xq_lt_0l {x : Int32} : 0 < x ↔ 0 < x.toInt := by rw [xq_lt, Int32.toInt_zero]
theorem xq_le_0r {x : Int32} : x ≤ 0 ↔ x.toInt ≤ 0 := by rw [xq_le, Int32.toInt_zero]
theorem xq_le_0l {x : Int32} : 0 ≤ x ↔ 0 ≤ x.toInt := by rw [xq_le, Int32.toInt_zero]
theorem xq_lt_n0 {a : Nat} (h : a < 2 ^ 31) : nI a < 0 ↔ (a : Int) < 0 := by rw [xq_lt_0r, nI_toInt h]
theorem xq_lt_0n {a : Nat} (h : a < 2 ^ 31) : 0 < nI a ↔ 0 < (a : Int) := by rw [xq_lt_0l, nI_toInt h]
theorem xq_le_n0 {a : Nat} (h : a < 2 ^ 31) : nI a ≤ 0 ↔ (a : Int) ≤ 0 := by rw [xq_le_0r, nI_toInt h]
theorem xq_le_0n {a : Nat} (h : a < 2 ^ 31) : 0 ≤ nI a ↔ 0 ≤ (a : Int) := by rw [xq_le_0l, nI_toInt h]
theorem xq_lt_mr {x : Int32} : x < (-1) ↔ x.toInt < -1 := by rw [xq_lt, xq_m1T]
theorem xq_toInt_inj {x y : Int32} (h : x.toInt = y.toInt) : x = y := Int32.toInt_inj.mp h
/-- an int that isn't below 0 is a number -/
theorem xq_nat {x : Int32} (h : 0 ≤ x.toInt) : ∃ j : Nat, j < 2 ^ 31 ∧ x = nI j ∧ x.toInt = (j : Int) ∧ x.toNatClampNeg = j := by
  obtain ⟨j, hj, e⟩ := nI_of (x := x) (fun q => by have := xq_lt_0r.mp q; omega)
  exact ⟨j, hj, e, by rw [e]; exact nI_toInt hj, by rw [e]; exact nI_clamp hj⟩
theorem xq_nm1 {a : Nat} (h : a < 2 ^ 31) : ¬ nI a = -1 := by
  intro q
  have h1 := nI_toInt h
  rw [q, xq_m1T] at h1
  omega
theorem xq_n0 {a : Nat} (h0 : 0 < a) (h : a < 2 ^ 31) : ¬ nI a = 0 := nI_ne0 h0 h
def zq_pd (n : Nat) : Int32 := match n with
  | 0 => -1
  | k + 1 => nI k
theorem xq_m1 : Int32.ofInt (-1) = (-1 : Int32) := by decide +kernel
theorem xq_pd (n : Nat) : nI n + Int32.ofInt (-1) = zq_pd n := by
  rw [xq_m1]
  cases n with
  | zero => decide +kernel
  | succ k => exact pk_m1 k
/-- f' is f with k values g from place hs on -/
def zq_app (f f' : Nat → Int32) (hs k : Nat) (g : Nat → Int32) : Prop := (∀ z, z < hs → f' z = f z) ∧ ∀ z, z < k → f' (hs + z) = g z
theorem zq_app_0 {f : Nat → Int32} {hs : Nat} {g : Nat → Int32} : zq_app f f hs 0 g := ⟨fun _ _ => rfl, fun z h => absurd h (Nat.not_lt_zero z)⟩
theorem zq_app_s {f f' : Nat → Int32} {hs k : Nat} {g : Nat → Int32} {v : Int32} (h : zq_app f f' hs k g) (hv : v = g k) : zq_app f (upd f' (hs + k) v) hs (k + 1) g := by
  refine ⟨fun z hz => ?_, fun z hz => ?_⟩
  · rw [pk_un (by omega)]; exact h.1 z hz
  · by_cases hk : z = k
    · subst hk; rw [pk_us]; exact hv
    · rw [pk_un (by omega)]; exact h.2 z (by omega)
theorem zq_app_cpy {f g : Nat → Int32} {dp n : Nat} : zq_app g (va_cpy f g 0 dp n) dp n f := by
  refine ⟨fun z hz => pk_cpy_out (Or.inl hz), fun z hz => ?_⟩
  rw [pk_cpy_in (by omega) (by omega)]
  congr 1
  omega
/-- what is written of v at d bytes from its lowest -/
def zq_pbv (v : Int64) (d : Nat) : Int32 := (v >>> ((nI (8 * d)).toInt64 &&& 63)).toInt32
/-- the writing of n blocks: whether it went through; up, bytes in hand, charge, blocks written -/
def zq_wb (up : Int32) (hs : Nat) (ch wr n : Int32) : Int32 × Int32 × Nat × Int32 × Int32 :=
  if ch = -1 then (nI 1, up, hs, ch, wr + n) else if ch < n then (nI 0, nI 0, 0, -1, wr + ch) else (nI 1, up, hs, ch - n, wr + n)
theorem zq_wb_a {up : Int32} {hs : Nat} {ch wr n : Int32} (h : ch = -1) : zq_wb up hs ch wr n = (nI 1, up, hs, ch, wr + n) := if_pos h
theorem zq_wb_b {up : Int32} {hs : Nat} {ch wr n : Int32} (h : ¬ ch = -1) (h2 : ch < n) : zq_wb up hs ch wr n = (nI 0, nI 0, 0, -1, wr + ch) := by
  unfold zq_wb; rw [if_neg h, if_pos h2]
theorem zq_wb_c {up : Int32} {hs : Nat} {ch wr n : Int32} (h : ¬ ch = -1) (h2 : ¬ ch < n) : zq_wb up hs ch wr n = (nI 1, up, hs, ch - n, wr + n) := by
  unfold zq_wb; rw [if_neg h, if_neg h2]
theorem zq_wb_r {up ch wr n r up1 ch1 wr1 : Int32} {hs hs1 : Nat} (h : (r, up1, hs1, ch1, wr1) = zq_wb up hs ch wr n) : (r = nI 0 ∧ up1 = nI 0 ∧ hs1 = 0 ∧ ch1 = -1) ∨ (r = nI 1 ∧ up1 = up ∧ hs1 = hs) := by
  by_cases h1 : ch = -1
  · rw [zq_wb_a h1] at h
    simp only [Prod.mk.injEq] at h
    exact Or.inr ⟨h.1, h.2.1, h.2.2.1⟩
  · by_cases h2 : ch < n
    · rw [zq_wb_b h1 h2] at h
      simp only [Prod.mk.injEq] at h
      exact Or.inl ⟨h.1, h.2.1, h.2.2.1, h.2.2.2.1⟩
    · rw [zq_wb_c h1 h2] at h
      simp only [Prod.mk.injEq] at h
      exact Or.inr ⟨h.1, h.2.1, h.2.2.1⟩
/-- a charge is none, or a number -/
def zq_chok (ch : Int32) : Prop := ch = -1 ∨ ∃ k : Nat, k ≤ 999 ∧ ch = nI k
theorem zq_chok_wb {up ch wr r up1 ch1 wr1 : Int32} {hs hs1 n : Nat} (hc : zq_chok ch) (hn : n ≤ 1000) (h : (r, up1, hs1, ch1, wr1) = zq_wb up hs ch wr (nI n)) : zq_chok ch1 := by
  by_cases h1 : ch = -1
  · rw [zq_wb_a h1] at h
    simp only [Prod.mk.injEq] at h
    exact Or.inl (h.2.2.2.1.trans h1)
  · by_cases h2 : ch < nI n
    · rw [zq_wb_b h1 h2] at h
      simp only [Prod.mk.injEq] at h
      exact Or.inl h.2.2.2.1
    · rw [zq_wb_c h1 h2] at h
      simp only [Prod.mk.injEq] at h
      rcases hc with hc | ⟨k, hk, e⟩
      · exact absurd hc h1
      · refine Or.inr ⟨k - n, by omega, ?_⟩
        rw [h.2.2.2.1, e]
        refine pk_sub ?_
        rw [e] at h2
        have h3 : ¬ k < n := fun q => h2 ((nI_ltI (by omega) (by omega)).mpr q)
        omega
theorem zq_wb_split {up ch wr n r up1 ch1 wr1 : Int32} {hs hs1 : Nat} (h : (r, up1, hs1, ch1, wr1) = zq_wb up hs ch wr n) : (r = nI 0 ∧ (nI 0, up1, hs1, ch1, wr1) = zq_wb up hs ch wr n) ∨ (r = nI 1 ∧ (nI 1, up1, hs1, ch1, wr1) = zq_wb up hs ch wr n) := by
  rcases zq_wb_r h with ⟨q, -⟩ | ⟨q, -⟩
  · exact Or.inl ⟨q, by rw [← q]; exact h⟩
  · exact Or.inr ⟨q, by rw [← q]; exact h⟩
theorem zq_01 : ¬ nI 0 = nI 1 := by decide +kernel
theorem zq_10 : ¬ nI 1 = 0 := by decide +kernel
/-- whether n bytes may come behind those in hand -/
def zq_okP (up : Int32) (hs mx : Nat) (n : Int32) : Prop := ¬ up = 0 ∧ 1 ≤ n.toInt ∧ n.toInt ≤ mx ∧ (hs : Int) + n.toInt ≤ 8000
def zq_szS (up : Int32) (rc ss : Nat) (T : Nat → Nat) (k : Int32) : Int32 :=
  if up = 0 ∨ k.toInt < -1 ∨ (rc : Int) ≤ k.toInt then -1 else if k = -1 then nI ss else nI (T (k.toNatClampNeg + 1) - T k.toNatClampNeg - 4)
theorem zq_szS_a {up : Int32} {rc ss : Nat} {T : Nat → Nat} {k : Int32} (h : up = 0 ∨ k.toInt < -1 ∨ (rc : Int) ≤ k.toInt) : (-1) = zq_szS up rc ss T k := (if_pos h).symm
theorem zq_szS_b {up : Int32} {rc ss : Nat} {T : Nat → Nat} {k : Int32} (h0 : ¬ up = 0) (h : k = -1) : nI ss = zq_szS up rc ss T k := by
  subst h
  unfold zq_szS
  rw [if_neg, if_pos rfl]
  rw [xq_m1T]
  intro q
  rcases q with q | q | q
  · exact h0 q
  · omega
  · omega
theorem zq_szS_c {up : Int32} {rc ss kk : Nat} {T : Nat → Nat} (h0 : ¬ up = 0) (h : kk < rc) (hr : rc ≤ 4000) : nI (T (kk + 1) - T kk - 4) = zq_szS up rc ss T (nI kk) := by
  unfold zq_szS
  rw [nI_toInt (by omega), if_neg, if_neg (xq_nm1 (by omega)), nI_clamp (by omega)]
  intro q
  rcases q with q | q | q
  · exact h0 q
  · omega
  · omega
theorem zq_szS_ix {k : Int32} {rc : Nat} (h1 : ¬ k.toInt < -1) (h2 : ¬ k = -1) (h3 : k.toInt < (rc : Int)) : ∃ kk : Nat, kk < rc ∧ k = nI kk := by
  have h4 : ¬ k.toInt = -1 := fun q => h2 (xq_toInt_inj (by rw [q, xq_m1T]))
  obtain ⟨j, -, e, e2, -⟩ := xq_nat (x := k) (by omega)
  exact ⟨j, by omega, e⟩
/-- where a byte is asked for that is there -/
theorem zq_szS_in {up k i : Int32} {rc ss : Nat} {T : Nat → Nat} (hr : rc ≤ 4000) (hs : ss ≤ 8000) (hT : ∀ j, j ≤ rc → T j ≤ 16000) (h0 : ¬ i.toInt < 0) (h : i.toInt < (zq_szS up rc ss T k).toInt) :
    (k = -1 ∧ ∃ ii : Nat, ii < ss ∧ i = nI ii) ∨ (∃ kk ii : Nat, kk < rc ∧ k = nI kk ∧ T kk + 4 + ii < T (kk + 1) ∧ i = nI ii) := by
  obtain ⟨ii, -, e, e2, -⟩ := xq_nat (x := i) (by omega)
  unfold zq_szS at h
  by_cases hc : up = 0 ∨ k.toInt < -1 ∨ (rc : Int) ≤ k.toInt
  · rw [if_pos hc, xq_m1T] at h
    omega
  · rw [if_neg hc] at h
    have hu : ¬ up = 0 := fun q => hc (Or.inl q)
    have hk1 : ¬ k.toInt < -1 := fun q => hc (Or.inr (Or.inl q))
    have hk2 : ¬ (rc : Int) ≤ k.toInt := fun q => hc (Or.inr (Or.inr q))
    by_cases hk : k = -1
    · rw [if_pos hk, nI_toInt (by omega)] at h
      exact Or.inl ⟨hk, ii, by omega, e⟩
    · rw [if_neg hk] at h
      obtain ⟨kk, hkk, ek⟩ := zq_szS_ix (rc := rc) hk1 hk (by omega)
      have hcl : k.toNatClampNeg = kk := by rw [ek]; exact nI_clamp (by omega)
      have hb := hT (kk + 1) (by omega)
      rw [hcl, nI_toInt (by omega)] at h
      exact Or.inr ⟨kk, ii, hkk, ek, by omega, e⟩
def zq_btS (up : Int32) (rc ss : Nat) (T : Nat → Nat) (gp gb : Nat → Int32) (k i : Int32) : Int32 :=
  if i.toInt < 0 ∨ (zq_szS up rc ss T k).toInt ≤ i.toInt then -1 else if k = -1 then gp i.toNatClampNeg else gb (T k.toNatClampNeg - 4 * k.toNatClampNeg + i.toNatClampNeg)
theorem zq_btS_a {up : Int32} {rc ss : Nat} {T : Nat → Nat} {gp gb : Nat → Int32} {k i : Int32} (h : i.toInt < 0 ∨ (zq_szS up rc ss T k).toInt ≤ i.toInt) : (-1) = zq_btS up rc ss T gp gb k i := (if_pos h).symm
theorem zq_btS_b {up : Int32} {rc ss ii : Nat} {T : Nat → Nat} {gp gb : Nat → Int32} {v : Int32} (hs : ii < 8000) (h : ¬ (nI ii).toInt < 0) (h2 : (nI ii).toInt < (zq_szS up rc ss T (-1)).toInt) (e : v = gp ii) : v = zq_btS up rc ss T gp gb (-1) (nI ii) := by
  unfold zq_btS
  rw [if_neg, if_pos rfl, nI_clamp (by omega)]
  · exact e
  · intro q
    rcases q with q | q
    · exact h q
    · omega
theorem zq_btS_c {up : Int32} {rc ss ii kk : Nat} {T : Nat → Nat} {gp gb : Nat → Int32} {v : Int32} (hs : ii < 2 ^ 31) (hk : kk < 2 ^ 31) (h : ¬ (nI ii).toInt < 0) (h2 : (nI ii).toInt < (zq_szS up rc ss T (nI kk)).toInt) (e : v = gb (T kk - 4 * kk + ii)) : v = zq_btS up rc ss T gp gb (nI kk) (nI ii) := by
  unfold zq_btS
  rw [if_neg, if_neg (xq_nm1 hk), nI_clamp hs, nI_clamp hk]
  · exact e
  · intro q
    rcases q with q | q
    · exact h q
    · omega
def zq_stS (up : Int32) (rc bg en hs : Nat) (wr what : Int32) : Int32 :=
  if what = 0 then (if up = 0 then nI 0 else nI 1) else if what = nI 5 then wr else if up = 0 then -1 else if what = nI 1 then nI rc else if what = nI 2 then nI bg else if what = nI 3 then nI en else if what = nI 4 then nI hs else -1
/-- a byte as the one side holds it, and as the other does -/
def zq_RB (a b : Int32) : Prop := ∃ w : Int32, a = w.toInt8.toInt32 ∧ b = w &&& nI 255
theorem bp_b (x : Int32) : x.toInt8.toInt32 &&& 255 = x &&& 255 := by
  apply Int32.toBitVec_inj.mp
  rw [Int32.toBitVec_and, Int32.toBitVec_and, Int8.toBitVec_toInt32, Int32.toBitVec_toInt8]
  apply BitVec.eq_of_getLsbD_eq
  intro i hi
  rw [BitVec.getLsbD_and, BitVec.getLsbD_and]
  have hm : ∀ i < 32, 8 ≤ i → (255 : Int32).toBitVec.getLsbD i = false := by decide
  rcases Nat.lt_or_ge i 8 with z | z
  · rw [BitVec.getLsbD_signExtend, BitVec.getLsbD_signExtend, if_pos z, if_pos hi]
    simp only [z, hi, decide_true, Bool.true_and]
  · rw [hm i hi z]; simp
theorem zq_RB_and {a b : Int32} (h : zq_RB a b) : a &&& nI 255 = b := by
  obtain ⟨w, e1, e2⟩ := h
  rw [e1, e2]
  exact bp_b w
theorem zq_RB_fit {a b : Int32} (h : zq_RB a b) : fits .byte (.int a) = true := by
  obtain ⟨w, e1, -⟩ := h
  rw [e1]
  exact pk_fb w
/-- N, of what was asked for -/
def zq_nN (n : Int32) : Nat := if 2 ≤ n.toInt ∧ n.toInt ≤ 32 then n.toNatClampNeg else 32
theorem zq_nN_in (n : Int32) : 2 ≤ zq_nN n ∧ zq_nN n ≤ 32 := by
  unfold zq_nN
  by_cases h : 2 ≤ n.toInt ∧ n.toInt ≤ 32
  · rw [if_pos h]
    obtain ⟨j, -, -, e2, e3⟩ := xq_nat (x := n) (by omega)
    omega
  · rw [if_neg h]; omega
theorem zq_nN_a {n : Int32} (h1 : ¬ n.toInt < 2) (h2 : ¬ (32 : Int) < n.toInt) : n = nI (zq_nN n) := by
  unfold zq_nN
  rw [if_pos ⟨by omega, by omega⟩]
  obtain ⟨j, -, e, -, e3⟩ := xq_nat (x := n) (by omega)
  rw [e3]; exact e
theorem zq_nN_b {n : Int32} (h : n.toInt < 2 ∨ (32 : Int) < n.toInt) : 32 = zq_nN n := by
  unfold zq_nN
  rw [if_neg (by omega)]
theorem zq_nb0 : narrow .boolean (.int (nI 0)) = .int (nI 0) := rfl
theorem zq_nb1 : narrow .boolean (.int (nI 1)) = .int (nI 1) := rfl
theorem zq_fb0 : fits .boolean (.int (nI 0)) = true := by decide +kernel
theorem zq_fb1 : fits .boolean (.int (nI 1)) = true := by decide +kernel
