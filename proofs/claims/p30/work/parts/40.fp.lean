-- parts of 16 in floats and doubles: exact as long as they are small
/-- the datum times 16 -/
def sh16 : FP.Core.Datum → FP.Core.Datum
  | .fin s c q => .fin s c (q + 4)
  | d => d
/-- the datum is k sixteenths -/
def P16 (k : Int) (d : FP.Core.Datum) : Prop := FP.Core.Whole k (sh16 d)
theorem sh16_sum (x y : FP.Core.Datum) : sh16 (FP.Core.exactSum x y) = FP.Core.exactSum (sh16 x) (sh16 y) := by
  cases x <;> cases y <;> try rfl
  · rename_i s t
    show sh16 (if s = t then _ else _) = if s = t then _ else _
    split <;> rfl
  · rename_i s c q t d r
    have hm : min (q + 4) (r + 4) = min q r + 4 := by omega
    have hu : FP.Core.sumUnits s c (q + 4) t d (r + 4) (min q r + 4) = FP.Core.sumUnits s c q t d r (min q r) := by
      unfold FP.Core.sumUnits FP.Core.inUnits
      rw [show q + 4 - (min q r + 4) = q - min q r by omega, show r + 4 - (min q r + 4) = r - min q r by omega]
    show FP.Core.Datum.fin _ _ _ = FP.Core.Datum.fin _ _ _
    rw [hm, hu]
theorem P16_sum {i j : Int} {x y : FP.Core.Datum} (hx : P16 i x) (hy : P16 j y) : P16 (i + j) (FP.Core.exactSum x y) := by
  show FP.Core.Whole _ (sh16 _)
  rw [sh16_sum]
  exact FP.Core.whole_sum hx hy
theorem sh16_neg (x : FP.Core.Datum) : sh16 (FP.Core.negate x) = FP.Core.negate (sh16 x) := by cases x <;> rfl
theorem P16_neg {i : Int} {x : FP.Core.Datum} (hx : P16 i x) : P16 (-i) (FP.Core.negate x) := by
  show FP.Core.Whole _ (sh16 _)
  rw [sh16_neg]
  exact FP.Core.whole_negate hx
theorem natFit16 {f : FP.Core.Fmt} (hf : FP.Core.Good f) (hw : f.p + 4 ≤ f.emax) (s : Bool) {n : Nat} (hn : n < 2 ^ f.p) :
    ∃ c q, FP.Core.fits f (.fin s c q) ∧ n * 2 ^ (-4 - q).toNat = c * 1 * 2 ^ (q - -4).toNat := by
  have h1 := FP.Core.two_tails hf
  have h2 := FP.Core.tails_two hf
  have h3 : 2 ≤ f.p := hf.2
  have h4 : f.qmin = 2 - (f.emax : Int) - (f.p : Int) := rfl
  have h5 : f.qmax = (f.emax : Int) - (f.p : Int) + 1 := rfl
  by_cases h0 : n = 0
  · subst h0
    exact ⟨0, f.qmin, FP.Core.zero_fits hf s, by simp⟩
  · have l1 : 2 ^ n.log2 ≤ n := Nat.log2_self_le h0
    have l2 : n < 2 ^ (n.log2 + 1) := Nat.lt_log2_self
    have l3 : n.log2 < f.p := (Nat.pow_lt_pow_iff_right (by decide : 1 < 2)).mp (Nat.lt_of_le_of_lt l1 (by omega))
    generalize n.log2 = L at l1 l2 l3
    refine ⟨n * 2 ^ (f.p - 1 - L), (L : Int) - ((f.p : Int) - 1) - 4, ⟨?_, by omega, by omega, .inr ?_⟩, ?_⟩
    · calc n * 2 ^ (f.p - 1 - L) < 2 ^ (L + 1) * 2 ^ (f.p - 1 - L) := Nat.mul_lt_mul_of_pos_right l2 (Nat.two_pow_pos _)
        _ = 2 ^ f.p := by rw [← Nat.pow_add]; congr 1; omega
    · calc f.tails = 2 ^ L * 2 ^ (f.p - 1 - L) := by rw [← Nat.pow_add]; unfold FP.Core.Fmt.tails; congr 1; omega
        _ ≤ n * 2 ^ (f.p - 1 - L) := Nat.mul_le_mul_right _ l1
    · rw [show (-4 - ((L : Int) - ((f.p : Int) - 1) - 4)).toNat = f.p - 1 - L by omega,
        show ((L : Int) - ((f.p : Int) - 1) - 4 - -4).toNat = 0 by omega]
      simp
theorem P16_round {f : FP.Core.Fmt} (hf : FP.Core.Good f) (hw : f.p + 4 ≤ f.emax) {i : Int} (hi : i.natAbs < 2 ^ f.p) {d : FP.Core.Datum} (h : P16 i d) : P16 i (FP.Core.round f d) := by
  cases d with
  | nan => exact h.elim
  | inf => exact h.elim
  | fin s c q =>
    have h : FP.Core.Whole i (.fin s c (q + 4)) := h
    obtain ⟨c', q', hfit, hv⟩ := natFit16 hf hw s hi
    have hr : FP.Core.round f (.fin s c q) = FP.Core.roundRatio f s i.natAbs 1 (-4) := by
      refine FP.Core.roundRatio_congr (by decide) (by decide) ?_
      have := FP.Core.whole_natAbs h
      rw [show (q - -4).toNat = (q + 4).toNat by omega, show (-4 - q).toNat = (-(q + 4)).toNat by omega]
      simpa using this
    rw [hr, FP.Core.roundRatio_exact hf (by decide) hfit hv]
    show FP.Core.signed s (c' * 2 ^ (q' + 4).toNat) = i * _
    rw [show (-4 - q').toNat = (-(q' + 4)).toNat by omega, show (q' - -4).toNat = (q' + 4).toNat by omega, Nat.mul_one] at hv
    rw [← hv, FP.Core.signed_mul]
    congr 1
    by_cases hi0 : i = 0
    · rw [hi0]; exact FP.Core.signed_zero s
    · rw [FP.Core.whole_sign h hi0]
      unfold FP.Core.signed
      by_cases h : i < 0 <;> simp [h] <;> omega
/-- a float of k sixteenths -/
def F16 (k : Int) (a : UInt32) : Prop := P16 k (FP.Core.val32 a)
def D16 (k : Int) (a : UInt64) : Prop := P16 k (FP.Core.val64 a)
theorem F16_add {i j : Int} {a b : UInt32} (ha : F16 i a) (hb : F16 j b) (h : (i + j).natAbs < 2 ^ 24) : F16 (i + j) (FP.fadd a b) := by
  show P16 _ (FP.Core.val32 (FP.Core.fadd a b))
  rw [FP.Core.val32_fadd]
  exact P16_round FP.Core.good_b32 (by decide) h (P16_sum ha hb)
theorem D16_add {i j : Int} {a b : UInt64} (ha : D16 i a) (hb : D16 j b) (h : (i + j).natAbs < 2 ^ 53) : D16 (i + j) (FP.dadd a b) := by
  show P16 _ (FP.Core.val64 (FP.Core.dadd a b))
  rw [FP.Core.val64_dadd]
  exact P16_round FP.Core.good_b64 (by decide) h (P16_sum ha hb)
theorem D16_sub {i j : Int} {a b : UInt64} (ha : D16 i a) (hb : D16 j b) (h : (i - j).natAbs < 2 ^ 53) : D16 (i - j) (FP.dsub a b) := by
  show P16 _ (FP.Core.val64 (FP.Core.dsub a b))
  rw [FP.Core.val64_dsub, show i - j = i + -j by omega]
  exact P16_round FP.Core.good_b64 (by decide) (by rw [show i + -j = i - j by omega]; exact h) (P16_sum ha (P16_neg hb))
theorem sh16_product {s t : Bool} {c d : Nat} {q r : Int} : sh16 (FP.Core.exactProduct (.fin s c q) (.fin t d r)) = FP.Core.exactProduct (sh16 (.fin s c q)) (.fin t d r) := by
  show FP.Core.Datum.fin _ _ _ = FP.Core.Datum.fin _ _ _
  rw [show q + r + 4 = q + 4 + r by omega]
theorem P16_product {i j : Int} {x y : FP.Core.Datum} (hx : P16 i x) (hy : FP.Core.Whole j y) : P16 (i * j) (FP.Core.exactProduct x y) := by
  cases x with
  | nan => exact hx.elim
  | inf => exact hx.elim
  | fin s c q =>
  cases y with
  | nan => exact hy.elim
  | inf => exact hy.elim
  | fin t d r =>
    show FP.Core.Whole _ (sh16 _)
    rw [sh16_product]
    exact FP.Core.whole_product hx hy
theorem F16_mul {i j : Int} {a b : UInt32} (ha : F16 i a) (hb : FP.Core.Whole j (FP.Core.val32 b)) (h : (i * j).natAbs < 2 ^ 24) : F16 (i * j) (FP.fmul a b) := by
  show P16 _ (FP.Core.val32 (FP.Core.fmul a b))
  rw [FP.Core.val32_fmul]
  exact P16_round FP.Core.good_b32 (by decide) h (P16_product ha hb)
theorem F16_wide {i : Int} {a : UInt32} (ha : F16 i a) (h : i.natAbs < 2 ^ 53) (hn : FP.f2d a = FP.Core.f2d a) : D16 i (FP.f2d a) := by
  show P16 _ (FP.Core.val64 _)
  rw [hn, FP.Core.val64_f2d]
  exact P16_round FP.Core.good_b64 (by decide) h ha
theorem i2f_whole {x : Int32} (h : x.toInt.natAbs ≤ 2 ^ 24) : FP.Core.Whole x.toInt (FP.Core.val32 (FP.i2f x)) := by
  show FP.Core.Whole _ (FP.Core.val32 (FP.Core.i2f x))
  rw [FP.Core.val32_i2f]
  exact FP.Core.whole_round FP.Core.good_b32 FP.Core.wide_b32 h (FP.Core.whole_ofInt _)
theorem P16_ne {k : Int} {d : FP.Core.Datum} (h : P16 k d) : d ≠ .nan := by
  intro e
  subst e
  exact h.elim
theorem nn32_val {a : UInt32} (h : FP.Core.val32 a ≠ .nan) : nn32 a = true := by
  unfold nn32
  rw [decide_eq_true_iff]
  refine Classical.byContradiction fun hc => h ?_
  have h1 : (0x7f800000 : Nat) < (a &&& 0x7fffffff).toNat := by
    rw [UInt32.le_iff_toNat_le] at hc
    exact Nat.lt_of_not_le hc
  rw [UInt32.toNat_and, show (0x7fffffff : UInt32).toNat = 2 ^ 31 - 1 from rfl, Nat.and_two_pow_sub_one_eq_mod] at h1
  show FP.Core.decode FP.Core.b32 a.toNat = .nan
  have hE : FP.Core.fieldE FP.Core.b32 a.toNat = FP.Core.b32.exps - 1 := by
    show a.toNat / 2 ^ 23 % 2 ^ 8 = 2 ^ 8 - 1
    omega
  have hT : FP.Core.fieldT FP.Core.b32 a.toNat ≠ 0 := by
    show a.toNat % 2 ^ 23 ≠ 0
    omega
  unfold FP.Core.decode
  rw [if_pos hE, if_neg hT]
theorem nn64_val {a : UInt64} (h : FP.Core.val64 a ≠ .nan) : nn64 a = true := by
  unfold nn64
  rw [decide_eq_true_iff]
  refine Classical.byContradiction fun hc => h ?_
  have h1 : (0x7ff0000000000000 : Nat) < (a &&& 0x7fffffffffffffff).toNat := by
    rw [UInt64.le_iff_toNat_le] at hc
    exact Nat.lt_of_not_le hc
  rw [UInt64.toNat_and, show (0x7fffffffffffffff : UInt64).toNat = 2 ^ 63 - 1 from rfl, Nat.and_two_pow_sub_one_eq_mod] at h1
  show FP.Core.decode FP.Core.b64 a.toNat = .nan
  have hE : FP.Core.fieldE FP.Core.b64 a.toNat = FP.Core.b64.exps - 1 := by
    show a.toNat / 2 ^ 52 % 2 ^ 11 = 2 ^ 11 - 1
    omega
  have hT : FP.Core.fieldT FP.Core.b64 a.toNat ≠ 0 := by
    show a.toNat % 2 ^ 52 ≠ 0
    omega
  unfold FP.Core.decode
  rw [if_pos hE, if_neg hT]
theorem F16_nn {k : Int} {a : UInt32} (h : F16 k a) : nn32 a = true := nn32_val (P16_ne h)
theorem D16_nn {k : Int} {a : UInt64} (h : D16 k a) : nn64 a = true := nn64_val (P16_ne h)
theorem F16_f2d {i : Int} {a : UInt32} (ha : F16 i a) (h : i.natAbs < 2 ^ 53) : D16 i (FP.f2d a) := by
  refine F16_wide ha h (FP.f2d_core ?_)
  have h1 : FP.Core.val32 a ≠ .nan := P16_ne ha
  show decide (FP.Core.decode FP.Core.b32 a.toNat = .nan) = false
  exact decide_eq_false h1
theorem order16 {i j : Int} {x y : FP.Core.Datum} (hx : P16 i x) (hy : P16 j y) : FP.Core.order x y = some (compare i j) := by
  rw [← FP.Core.order_whole hx hy]
  cases x with
  | nan => exact hx.elim
  | inf => exact hx.elim
  | fin s c q =>
  cases y with
  | nan => exact hy.elim
  | inf => exact hy.elim
  | fin t d r =>
    have hm : min (q + 4) (r + 4) = min q r + 4 := by omega
    show some _ = some (compare (FP.Core.signed s (FP.Core.inUnits c (q + 4) (min (q + 4) (r + 4)))) (FP.Core.signed t (FP.Core.inUnits d (r + 4) (min (q + 4) (r + 4)))))
    rw [hm]
    unfold FP.Core.inUnits
    rw [show q + 4 - (min q r + 4) = q - min q r by omega, show r + 4 - (min q r + 4) = r - min q r by omega]
theorem dcmp16 {i j : Int} {a b : UInt64} (ha : D16 i a) (hb : D16 j b) : FP.dcmp a b = some (compare i j) := order16 ha hb
theorem c8 : F16 2 1040187392 := by
  show FP.Core.Whole _ (sh16 (FP.Core.val32 1040187392))
  rw [show FP.Core.val32 1040187392 = .fin false (2 ^ 23) (-26) by decide +kernel]
  show FP.Core.signed false (2 ^ 23 * 2 ^ ((-26) + 4 : Int).toNat) = 2 * ((2 ^ (-((-26) + 4 : Int)).toNat : Nat) : Int)
  decide +kernel
theorem c16 : F16 1 1031798784 := by
  show FP.Core.Whole _ (sh16 (FP.Core.val32 1031798784))
  rw [show FP.Core.val32 1031798784 = .fin false (2 ^ 23) (-27) by decide +kernel]
  show FP.Core.signed false (2 ^ 23 * 2 ^ ((-27) + 4 : Int).toNat) = 1 * ((2 ^ (-((-27) + 4 : Int)).toNat : Nat) : Int)
  decide +kernel
theorem c4 : F16 4 1048576000 := by
  show FP.Core.Whole _ (sh16 (FP.Core.val32 1048576000))
  rw [show FP.Core.val32 1048576000 = .fin false (2 ^ 23) (-25) by decide +kernel]
  show FP.Core.signed false (2 ^ 23 * 2 ^ ((-25) + 4 : Int).toNat) = 4 * ((2 ^ (-((-25) + 4 : Int)).toNat : Nat) : Int)
  decide +kernel
theorem f2w : FP.Core.Whole 2 (FP.Core.val32 FP.fconst2) := by
  rw [show FP.Core.val32 FP.fconst2 = .fin false (2 ^ 23) (-22) by decide +kernel]
  show FP.Core.signed false (2 ^ 23 * 2 ^ ((-22) : Int).toNat) = 2 * ((2 ^ (-((-22) : Int)).toNat : Nat) : Int)
  decide +kernel
theorem f2p : F16 32 FP.fconst2 := by
  show FP.Core.Whole _ (sh16 (FP.Core.val32 FP.fconst2))
  rw [show FP.Core.val32 FP.fconst2 = .fin false (2 ^ 23) (-22) by decide +kernel]
  show FP.Core.signed false (2 ^ 23 * 2 ^ ((-22) + 4 : Int).toNat) = 32 * ((2 ^ (-((-22) + 4 : Int)).toNat : Nat) : Int)
  decide +kernel
theorem f0p : F16 0 FP.fconst0 := by
  show FP.Core.Whole _ (sh16 (FP.Core.val32 FP.fconst0))
  rw [show FP.Core.val32 FP.fconst0 = .fin false 0 (-149) by decide +kernel]
  show FP.Core.signed false (0 * 2 ^ ((-149) + 4 : Int).toNat) = 0 * ((2 ^ (-((-149) + 4 : Int)).toNat : Nat) : Int)
  decide +kernel
theorem f0l : F16 0 0 := f0p
