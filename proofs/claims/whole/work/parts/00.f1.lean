/-! the doubles, by their values in units of the format's least number -/
abbrev ZV (d : FP.Core.Datum) : Int := FP.Core.zval FP.Core.b64 d
abbrev ZF (a : UInt64) : Int := FP.Core.zval FP.Core.b64 (FP.Core.val64 a)
theorem zadd_le {a b : UInt64} (ha : FP.Core.DFin a) (hb : FP.Core.DFin b) {V : FP.Core.Datum} (hV : FP.Core.fits FP.Core.b64 V) (hn : V ≠ .nan) (h : ZF a + ZF b ≤ ZV V) : ZF (FP.dadd a b) ≤ ZV V := by
  have fa := FP.Core.val64_fits a
  have fb := FP.Core.val64_fits b
  obtain ⟨s, c, q, ea⟩ := ha
  obtain ⟨t, d, r, eb⟩ := hb
  unfold ZF ZV at *
  rw [FP.Core.val64_dadd]
  rw [ea] at fa h ⊢
  rw [eb] at fb h ⊢
  obtain ⟨sg, n, e, h1, h2, h3⟩ := FP.Core.sum_units fa fb
  rw [h1]
  refine FP.Core.zval_round_le FP.Core.good_b64 hV hn (Int.le_refl _) h2 ?_
  rw [h3, Int.sub_self]
  show _ ≤ _ * ((1 : Nat) : Int)
  omega
theorem zadd_ge {a b : UInt64} (ha : FP.Core.DFin a) (hb : FP.Core.DFin b) {V : FP.Core.Datum} (hV : FP.Core.fits FP.Core.b64 V) (hn : V ≠ .nan) (h : ZV V ≤ ZF a + ZF b) : ZV V ≤ ZF (FP.dadd a b) := by
  have fa := FP.Core.val64_fits a
  have fb := FP.Core.val64_fits b
  obtain ⟨s, c, q, ea⟩ := ha
  obtain ⟨t, d, r, eb⟩ := hb
  unfold ZF ZV at *
  rw [FP.Core.val64_dadd]
  rw [ea] at fa h ⊢
  rw [eb] at fb h ⊢
  obtain ⟨sg, n, e, h1, h2, h3⟩ := FP.Core.sum_units fa fb
  rw [h1]
  refine FP.Core.zval_round_ge FP.Core.good_b64 hV hn (Int.le_refl _) h2 ?_
  rw [h3, Int.sub_self]
  show _ * ((1 : Nat) : Int) ≤ _
  omega
theorem zneg (a : UInt64) : ZF (FP.Core.dneg a) = - ZF a := by
  unfold ZF
  rw [FP.Core.val64_dneg, FP.Core.zval_negate]
theorem fin_neg {a : UInt64} (h : FP.Core.DFin a) : FP.Core.DFin (FP.Core.dneg a) := by
  obtain ⟨s, c, q, e⟩ := h
  exact ⟨!s, c, q, by rw [FP.Core.val64_dneg, e]; rfl⟩
theorem zsub_le {a b : UInt64} (ha : FP.Core.DFin a) (hb : FP.Core.DFin b) {V : FP.Core.Datum} (hV : FP.Core.fits FP.Core.b64 V) (hn : V ≠ .nan) (h : ZF a - ZF b ≤ ZV V) : ZF (FP.dsub a b) ≤ ZV V := by
  rw [show FP.dsub a b = FP.dadd a (FP.Core.dneg b) from FP.Core.dsub_eq a b]
  exact zadd_le ha (fin_neg hb) hV hn (by rw [zneg]; omega)
theorem zsub_ge {a b : UInt64} (ha : FP.Core.DFin a) (hb : FP.Core.DFin b) {V : FP.Core.Datum} (hV : FP.Core.fits FP.Core.b64 V) (hn : V ≠ .nan) (h : ZV V ≤ ZF a - ZF b) : ZV V ≤ ZF (FP.dsub a b) := by
  rw [show FP.dsub a b = FP.dadd a (FP.Core.dneg b) from FP.Core.dsub_eq a b]
  exact zadd_ge ha (fin_neg hb) hV hn (by rw [zneg]; omega)
theorem signed_xor (s t : Bool) (x y : Nat) : FP.Core.signed (s != t) (x * y) = FP.Core.signed s x * FP.Core.signed t y := by
  cases s <;> cases t <;> simp [FP.Core.signed, Int.neg_mul, Int.mul_neg]
theorem zprod {a b : UInt64} (ha : FP.Core.DFin a) (hb : FP.Core.DFin b) : ∃ sg n e, FP.Core.exactProduct (FP.Core.val64 a) (FP.Core.val64 b) = .fin sg n e ∧ 2 * FP.Core.b64.qmin ≤ e ∧ FP.Core.signed sg (FP.Core.inUnits n e (2 * FP.Core.b64.qmin)) = ZF a * ZF b := by
  have fa := FP.Core.val64_fits a
  have fb := FP.Core.val64_fits b
  obtain ⟨s, c, q, ea⟩ := ha
  obtain ⟨t, d, r, eb⟩ := hb
  unfold ZF
  rw [ea] at fa ⊢
  rw [eb] at fb ⊢
  obtain ⟨h1, h2, h3⟩ := FP.Core.product_units fa fb
  refine ⟨_, _, _, h1, h2, ?_⟩
  rw [h3, signed_xor]
  rfl
theorem zmul_le {a b : UInt64} (ha : FP.Core.DFin a) (hb : FP.Core.DFin b) {V : FP.Core.Datum} (hV : FP.Core.fits FP.Core.b64 V) (hn : V ≠ .nan) (h : ZF a * ZF b ≤ ZV V * (FP.Core.one64 : Int)) : ZF (FP.dmul a b) ≤ ZV V := by
  obtain ⟨sg, n, e, h1, h2, h3⟩ := zprod ha hb
  unfold ZF at *
  rw [FP.Core.val64_dmul, h1]
  refine FP.Core.zval_round_le FP.Core.good_b64 hV hn (by decide +kernel) h2 ?_
  rw [h3, show (FP.Core.b64.qmin - 2 * FP.Core.b64.qmin) = - FP.Core.b64.qmin by omega, FP.Core.pow_qmin64]
  exact h
theorem zmul_ge {a b : UInt64} (ha : FP.Core.DFin a) (hb : FP.Core.DFin b) {V : FP.Core.Datum} (hV : FP.Core.fits FP.Core.b64 V) (hn : V ≠ .nan) (h : ZV V * (FP.Core.one64 : Int) ≤ ZF a * ZF b) : ZV V ≤ ZF (FP.dmul a b) := by
  obtain ⟨sg, n, e, h1, h2, h3⟩ := zprod ha hb
  unfold ZF at *
  rw [FP.Core.val64_dmul, h1]
  refine FP.Core.zval_round_ge FP.Core.good_b64 hV hn (by decide +kernel) h2 ?_
  rw [h3, show (FP.Core.b64.qmin - 2 * FP.Core.b64.qmin) = - FP.Core.b64.qmin by omega, FP.Core.pow_qmin64]
  exact h
theorem zfin {a : UInt64} (h0 : FP.Core.val64 a ≠ .nan) {B : Int} (h1 : - B ≤ ZF a) (h2 : ZF a ≤ B) (hB : B < (2 : Int) ^ 2098) : FP.Core.DFin a := by
  cases hv : FP.Core.val64 a with
  | nan => exact absurd hv h0
  | fin s c q => exact ⟨s, c, q, hv⟩
  | inf s =>
    exfalso
    unfold ZF at h1 h2
    rw [hv] at h1 h2
    have e : FP.Core.zval FP.Core.b64 (.inf s) = FP.Core.signed s (FP.Core.b64.tails * 2 ^ (FP.Core.b64.exps - 2)) := rfl
    have e2 : FP.Core.b64.tails * 2 ^ (FP.Core.b64.exps - 2) = 2 ^ 2098 := by decide +kernel
    rw [e, e2] at h1 h2
    have e3 : (((2 : Nat) ^ 2098 : Nat) : Int) = (2 : Int) ^ 2098 := by rw [Int.natCast_pow]; rfl
    cases s
    · have : FP.Core.signed false (2 ^ 2098) = (((2 : Nat) ^ 2098 : Nat) : Int) := rfl
      rw [this, e3] at h2
      omega
    · have : FP.Core.signed true (2 ^ 2098) = -(((2 : Nat) ^ 2098 : Nat) : Int) := rfl
      rw [this, e3] at h1
      omega
theorem zmag_of {a : UInt64} (h : 0 ≤ ZF a) : ((FP.Core.zmag FP.Core.b64 (FP.Core.val64 a) : Nat) : Int) = ZF a := by
  unfold ZF FP.Core.zval FP.Core.signed at *
  split at h <;> rename_i hs
  · rw [if_pos hs]; omega
  · rw [if_neg hs]
theorem zdiv_core {a b : UInt64} (ha : FP.Core.DFin a) (hb : FP.Core.DFin b) (h0 : 0 ≤ ZF a) (hb0 : 0 < ZF b) : (∀ V : FP.Core.Datum, FP.Core.fits FP.Core.b64 V → V ≠ .nan → 0 ≤ ZV V → ZF a * (FP.Core.one64 : Int) ≤ ZV V * ZF b → ZF (FP.ddiv a b) ≤ ZV V) ∧ (∀ V : FP.Core.Datum, FP.Core.fits FP.Core.b64 V → V ≠ .nan → 0 ≤ ZV V → ZV V * ZF b ≤ ZF a * (FP.Core.one64 : Int) → ZV V ≤ ZF (FP.ddiv a b)) := by
  have fa := FP.Core.val64_fits a
  have fb := FP.Core.val64_fits b
  have za := zmag_of h0
  have zb := zmag_of (Int.le_of_lt hb0)
  obtain ⟨s, c, q, ea⟩ := ha
  obtain ⟨t, d, r, eb⟩ := hb
  rw [ea] at fa za
  rw [eb] at fb zb
  have hd0 : d ≠ 0 := by
    rintro rfl
    have h1 : FP.Core.zmag FP.Core.b64 (.fin t 0 r) = 0 := Nat.zero_mul _
    omega
  have ht : t = false := by
    cases t
    · rfl
    · exfalso
      unfold ZF at hb0
      rw [eb] at hb0
      have : FP.Core.zval FP.Core.b64 (.fin true d r) = -((FP.Core.zmag FP.Core.b64 (.fin true d r) : Nat) : Int) := rfl
      omega
  subst ht
  have hv : FP.Core.val64 (FP.ddiv a b) = FP.Core.roundRatio FP.Core.b64 (s != false) c d (q - r) := by
    rw [FP.Core.val64_ddiv, ea, eb]
    simp only [FP.Core.quotient, if_neg hd0]
  have hq : FP.Core.b64.qmin < 0 := by decide +kernel
  have ha1 := fa.2.1
  have hb1 := fb.2.1
  have e1 : FP.Core.inUnits c (q - r) (2 * FP.Core.b64.qmin - r) = FP.Core.zmag FP.Core.b64 (.fin s c q) * FP.Core.one64 := by
    rw [← FP.Core.pow_qmin64]
    show c * _ = c * _ * _
    rw [Nat.mul_assoc, ← Nat.pow_add]; congr 2; omega
  have e2 : 2 ^ (FP.Core.b64.qmin - (2 * FP.Core.b64.qmin - r)).toNat * d = FP.Core.zmag FP.Core.b64 (.fin false d r) := by
    show _ = d * _
    rw [Nat.mul_comm]; congr 2; omega
  have zV : ∀ V : FP.Core.Datum, 0 ≤ ZV V → ((FP.Core.zmag FP.Core.b64 V : Nat) : Int) = ZV V := fun V h => by
    unfold ZV FP.Core.zval FP.Core.signed at *
    split at h <;> rename_i hs
    · rw [if_pos hs]; omega
    · rw [if_neg hs]
  have hval : ZF (FP.ddiv a b) = FP.Core.signed s (FP.Core.zmag FP.Core.b64 (FP.Core.roundRatio FP.Core.b64 (s != false) c d (q - r))) := by
    unfold ZF
    rw [hv]
    unfold FP.Core.zval
    rw [FP.Core.sgn_roundRatio]
    cases s <;> rfl
  have hs0 : s = false ∨ c = 0 := by
    cases s
    · exact Or.inl rfl
    · right
      unfold ZF at h0
      rw [ea] at h0
      have e3 : FP.Core.zval FP.Core.b64 (.fin true c q) = -((FP.Core.inUnits c q FP.Core.b64.qmin : Nat) : Int) := rfl
      have : FP.Core.inUnits c q FP.Core.b64.qmin = 0 := by omega
      unfold FP.Core.inUnits at this
      rcases Nat.mul_eq_zero.mp this with h | h
      · exact h
      · exact absurd h (Nat.ne_of_gt (Nat.two_pow_pos _))
  have hz : ZF (FP.ddiv a b) = ((FP.Core.zmag FP.Core.b64 (FP.Core.roundRatio FP.Core.b64 (s != false) c d (q - r)) : Nat) : Int) := by
    rw [hval]
    rcases hs0 with h | h
    · subst h; rfl
    · subst h
      have : FP.Core.zmag FP.Core.b64 (FP.Core.roundRatio FP.Core.b64 (s != false) 0 d (q - r)) = 0 := by
        unfold FP.Core.roundRatio
        rw [if_pos rfl]
        exact Nat.zero_mul _
      rw [this]
      cases s <;> rfl
  refine ⟨fun V fV hn h1 h2 => ?_, fun V fV hn h1 h2 => ?_⟩
  · have := FP.Core.zmag_roundRatio_le FP.Core.good_b64 (s := s != false) (A := c) (B := d) (e := q - r) (e0 := 2 * FP.Core.b64.qmin - r) (V := V) (by omega) fV hn (by omega) (by omega) (by
      rw [e1, Nat.mul_assoc, e2]
      have := zV V h1
      exact Int.ofNat_le.mp (by rw [Int.natCast_mul, Int.natCast_mul, za, zb, this]; exact h2))
    rw [hz, ← zV V h1]
    exact Int.ofNat_le.mpr this
  · have := FP.Core.zmag_roundRatio_ge FP.Core.good_b64 (s := s != false) (A := c) (B := d) (e := q - r) (e0 := 2 * FP.Core.b64.qmin - r) (V := V) (by omega) fV (by omega) (by omega) (by
      rw [e1, Nat.mul_assoc, e2]
      have := zV V h1
      exact Int.ofNat_le.mp (by rw [Int.natCast_mul, Int.natCast_mul, za, zb, this]; exact h2))
    rw [hz, ← zV V h1]
    exact Int.ofNat_le.mpr this
