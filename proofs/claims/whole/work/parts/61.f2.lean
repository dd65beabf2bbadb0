/-- an eighth, in units -/
theorem U8_ex : ∃ u : Nat, u = 2 ^ 1071 := ⟨_, rfl⟩
noncomputable def U8 : Nat := Classical.choose U8_ex
theorem U8_eq : U8 = 2 ^ 1071 := Classical.choose_spec U8_ex
theorem U8_pos : 0 < U8 := by rw [U8_eq]; exact Nat.two_pow_pos _
theorem pw3 (n : Nat) : 2 ^ (3 + n) = 8 * 2 ^ n := by rw [Nat.pow_add]
theorem U8_one : FP.Core.one64 = 8 * U8 := by
  rw [U8_eq]
  exact pw3 1071
def E8 (m : Int) : FP.Core.Datum := FP.Core.round FP.Core.b64 (.fin (decide (m < 0)) m.natAbs (-3))
theorem E8_fits (m : Int) : FP.Core.fits FP.Core.b64 (E8 m) := FP.Core.round_fits FP.Core.good_b64 _
theorem E8_nn (m : Int) : E8 m ≠ .nan := fun h => by
  have := FP.Core.round_nan.mp h
  cases this
theorem E8_in (c : Nat) : FP.Core.inUnits c (-3) FP.Core.b64.qmin = c * U8 :=
  (congrArg (fun k => c * 2 ^ k) (show ((-3 : Int) - FP.Core.b64.qmin).toNat = 1071 by decide +kernel)).trans (congrArg (fun k => c * k) U8_eq.symm)
theorem E8_val {m : Int} (h : m.natAbs < 2 ^ 53) : ZV (E8 m) = m * (U8 : Int) := by
  obtain ⟨c, q, h1, h2⟩ := FP.Core.round_exact FP.Core.good_b64 (decide (m < 0)) (c := m.natAbs) (q := -3) (by rw [show FP.Core.b64.p = 53 by decide +kernel]; exact h) (by decide +kernel) (by decide +kernel)
  unfold ZV E8
  rw [h1]
  show FP.Core.signed (decide (m < 0)) (FP.Core.inUnits c q FP.Core.b64.qmin) = _
  rw [h2]
  have e : FP.Core.inUnits m.natAbs (-3) FP.Core.b64.qmin = m.natAbs * U8 := E8_in m.natAbs
  rw [e, FP.Core.signed_mul]
  have e2 : FP.Core.signed (decide (m < 0)) m.natAbs = m := by
    unfold FP.Core.signed
    by_cases h : m < 0 <;> simp [h] <;> omega
  rw [e2]
/-- between l and h eighths -/
def bd (l h : Int) (a : UInt64) : Prop := FP.Core.val64 a ≠ .nan ∧ l * (U8 : Int) ≤ ZF a ∧ ZF a ≤ h * (U8 : Int)
theorem bd.weaken {l h l' h' : Int} {a : UInt64} (q : bd l h a) (h1 : l' ≤ l) (h2 : h ≤ h') : bd l' h' a :=
  ⟨q.1, Int.le_trans (Int.mul_le_mul_of_nonneg_right h1 (by omega)) q.2.1, Int.le_trans q.2.2 (Int.mul_le_mul_of_nonneg_right h2 (by omega))⟩
theorem U8_top {m : Int} (h : m.natAbs ≤ 2 ^ 60) : (m * (U8 : Int)) < (2 : Int) ^ 2098 ∧ -(2 : Int) ^ 2098 < m * (U8 : Int) := by
  have h1 : (m * (U8 : Int)).natAbs < 2 ^ 2098 := by
    rw [Int.natAbs_mul, Int.natAbs_natCast]
    have h2 : m.natAbs * U8 ≤ 2 ^ 60 * U8 := Nat.mul_le_mul_right _ h
    have h3 : 2 ^ 60 * U8 < 2 ^ 2098 := by
      rw [U8_eq, ← Nat.pow_add]
      exact Nat.pow_lt_pow_right (by decide) (by decide)
    omega
  have e3 : (((2 : Nat) ^ 2098 : Nat) : Int) = (2 : Int) ^ 2098 := by rw [Int.natCast_pow]; rfl
  rw [← e3]
  omega
theorem bd.fin {l h : Int} {a : UInt64} (q : bd l h a) (h1 : l.natAbs ≤ 2 ^ 59) (h2 : h.natAbs ≤ 2 ^ 59) : FP.Core.DFin a := by
  obtain ⟨g1, g2, g3⟩ := q
  have t := U8_top (m := ((l.natAbs + h.natAbs : Nat) : Int)) (by omega)
  refine zfin g1 (B := ((l.natAbs + h.natAbs : Nat) : Int) * (U8 : Int)) ?_ ?_ t.1
  · refine Int.le_trans ?_ g2
    rw [← Int.neg_mul]
    exact Int.mul_le_mul_of_nonneg_right (by omega) (by omega)
  · refine Int.le_trans g3 ?_
    exact Int.mul_le_mul_of_nonneg_right (by omega) (by omega)
theorem n64_of {a : UInt64} (h : FP.Core.val64 a ≠ .nan) : vf_n64 a := by
  have := (FP.Core.ne_nan a).mp h
  unfold vf_n64
  rw [UInt64.le_iff_toNat_le, FP.Core.mask_toNat]
  exact this
theorem nn_of {a : UInt64} (h : FP.dIsNaN a = false) : FP.Core.val64 a ≠ .nan := (FP.Core.notNaN_iff a).mp h
theorem bd.nan {l h : Int} {a : UInt64} (q : bd l h a) : FP.dIsNaN a = false := (FP.Core.notNaN_iff a).mpr q.1
theorem bd.n64 {l h : Int} {a : UInt64} (q : bd l h a) : vf_n64 a := n64_of q.1
abbrev sm (m : Int) : Prop := m.natAbs < 2 ^ 53
theorem bd_i2d (x : Int32) : bd (8 * x.toInt) (8 * x.toInt) (FP.i2d x) := by
  have hs : FP.Core.Small53 x.toInt64 := by
    unfold FP.Core.Small53
    rw [Int32.toInt_toInt64]
    have := FP.Core.int32_abs x
    omega
  have h1 := FP.Core.l2d_whole hs
  have h2 := FP.Core.whole_zval FP.Core.good_b64 (FP.Core.val64_fits _) h1
  rw [FP.Core.pow_qmin64, U8_one, Int32.toInt_toInt64, ← FP.Core.i2d_l2d] at h2
  have e : ZF (FP.i2d x) = 8 * x.toInt * (U8 : Int) := by
    show FP.Core.zval FP.Core.b64 (FP.Core.val64 (FP.Core.i2d x)) = _
    rw [h2, Int.natCast_mul]
    rw [← Int.mul_assoc, Int.mul_comm x.toInt]
    rfl
  refine ⟨?_, by rw [e]; exact Int.le_refl _, by rw [e]; exact Int.le_refl _⟩
  exact (FP.Core.i2d_fin x).ne_nan
theorem bd_add {l h l' h' : Int} {a b : UInt64} (p : bd l h a) (q : bd l' h' b) (s1 : sm l) (s2 : sm h) (s3 : sm l') (s4 : sm h') (s5 : sm (l + l')) (s6 : sm (h + h')) : bd (l + l') (h + h') (FP.dadd a b) := by
  have fa := p.fin (by omega) (by omega)
  have fb := q.fin (by omega) (by omega)
  obtain ⟨p1, p2, p3⟩ := p
  obtain ⟨q1, q2, q3⟩ := q
  refine ⟨nn_of (FP.Core.dadd_out fa.notNaN fb), ?_, ?_⟩
  · rw [← E8_val s5]
    exact zadd_ge fa fb (E8_fits _) (E8_nn _) (by rw [E8_val s5, Int.add_mul]; omega)
  · rw [← E8_val s6]
    exact zadd_le fa fb (E8_fits _) (E8_nn _) (by rw [E8_val s6, Int.add_mul]; omega)
theorem bd_sub {l h l' h' : Int} {a b : UInt64} (p : bd l h a) (q : bd l' h' b) (s1 : sm l) (s2 : sm h) (s3 : sm l') (s4 : sm h') (s5 : sm (l - h')) (s6 : sm (h - l')) : bd (l - h') (h - l') (FP.dsub a b) := by
  have fa := p.fin (by omega) (by omega)
  have fb := q.fin (by omega) (by omega)
  obtain ⟨p1, p2, p3⟩ := p
  obtain ⟨q1, q2, q3⟩ := q
  refine ⟨nn_of (FP.Core.dsub_out fa.notNaN fb), ?_, ?_⟩
  · rw [← E8_val s5]
    exact zsub_ge fa fb (E8_fits _) (E8_nn _) (by rw [E8_val s5, Int.sub_mul]; omega)
  · rw [← E8_val s6]
    exact zsub_le fa fb (E8_fits _) (E8_nn _) (by rw [E8_val s6, Int.sub_mul]; omega)
theorem bd_mul {h h' m : Int} {a b : UInt64} (p : bd 0 h a) (q : bd 0 h' b) (s2 : sm h) (s4 : sm h') (s6 : sm m) (hm : h * h' ≤ 8 * m) : bd 0 m (FP.dmul a b) := by
  have fa := p.fin (by omega) (by omega)
  have fb := q.fin (by omega) (by omega)
  obtain ⟨p1, p2, p3⟩ := p
  obtain ⟨q1, q2, q3⟩ := q
  rw [Int.zero_mul] at p2 q2
  refine ⟨nn_of (FP.Core.dmul_out fa fb), ?_, ?_⟩
  · rw [← E8_val (m := 0) (by decide)]
    exact zmul_ge fa fb (E8_fits _) (E8_nn _) (by rw [E8_val (by decide), Int.zero_mul, Int.zero_mul]; exact Int.mul_nonneg p2 q2)
  · rw [← E8_val s6]
    refine zmul_le fa fb (E8_fits _) (E8_nn _) ?_
    rw [E8_val s6, U8_one]
    have g1 : ZF a * ZF b ≤ (h * U8) * (h' * U8) := Int.mul_le_mul p3 q3 q2 (Int.le_trans p2 p3)
    have g2 : (h * (U8 : Int)) * (h' * U8) = (h * h') * (U8 * U8) := by ac_rfl
    have g3 : m * (U8 : Int) * ((8 * U8 : Nat) : Int) = (8 * m) * (U8 * U8) := by rw [Int.natCast_mul]; show m * (U8 : Int) * (8 * (U8 : Int)) = _; ac_rfl
    rw [g3]
    rw [g2] at g1
    exact Int.le_trans g1 (Int.mul_le_mul_of_nonneg_right hm (Int.mul_nonneg (by omega) (by omega)))
theorem bd_div {h l' m : Int} {a b : UInt64} (p : bd 0 h a) (fb : FP.Core.DFin b) (q : l' * (U8 : Int) ≤ ZF b) (hl : 1 ≤ l') (s2 : sm h) (s6 : sm m) (h0 : 0 ≤ m) (hm : 8 * h ≤ m * l') : bd 0 m (FP.ddiv a b) := by
  have fa := p.fin (by omega) (by omega)
  obtain ⟨p1, p2, p3⟩ := p
  rw [Int.zero_mul] at p2
  have up := U8_pos
  have hb0 : 0 < ZF b := Int.lt_of_lt_of_le (Int.mul_pos (by omega) (by omega)) q
  have hz : ¬ FP.Core.DZero b := by
    rintro ⟨s, r, e⟩
    unfold ZF at hb0
    rw [e] at hb0
    have : FP.Core.zval FP.Core.b64 (.fin s 0 r) = 0 := by
      show FP.Core.signed s (0 * _) = 0
      rw [Nat.zero_mul]
      cases s <;> rfl
    omega
  have hc := zdiv_core fa fb p2 hb0
  refine ⟨nn_of (FP.Core.ddiv_out fa.notNaN fb hz), ?_, ?_⟩
  · rw [← E8_val (m := 0) (by decide)]
    exact hc.2 _ (E8_fits _) (E8_nn _) (by rw [E8_val (by decide), Int.zero_mul]; omega) (by rw [E8_val (by decide), Int.zero_mul, Int.zero_mul]; exact Int.mul_nonneg p2 (by omega))
  · rw [← E8_val s6]
    refine hc.1 _ (E8_fits _) (E8_nn _) (by rw [E8_val s6]; exact Int.mul_nonneg h0 (by omega)) ?_
    rw [E8_val s6, U8_one, Int.natCast_mul]
    have g1 : ZF a * ((8 : Int) * U8) ≤ h * U8 * (8 * U8) := Int.mul_le_mul_of_nonneg_right p3 (by omega)
    have g2 : h * (U8 : Int) * (8 * U8) = (8 * h) * (U8 * U8) := by ac_rfl
    have g3 : (8 * h) * ((U8 : Int) * U8) ≤ (m * l') * (U8 * U8) := Int.mul_le_mul_of_nonneg_right hm (Int.mul_nonneg (by omega) (by omega))
    have g4 : (m * l') * ((U8 : Int) * U8) = m * U8 * (l' * U8) := by ac_rfl
    have g5 : m * (U8 : Int) * (l' * U8) ≤ m * U8 * ZF b := Int.mul_le_mul_of_nonneg_left q (Int.mul_nonneg h0 (by omega))
    show ZF a * ((8 : Int) * U8) ≤ _
    omega
theorem bd_divge {l h' m : Int} {a b : UInt64} (fa : FP.Core.DFin a) (pa : l * (U8 : Int) ≤ ZF a) (q : bd 1 h' b) (hl : 0 ≤ l) (s4 : sm h') (s6 : sm m) (h0 : 0 ≤ m) (hm : m * h' ≤ 8 * l) : m * (U8 : Int) ≤ ZF (FP.ddiv a b) := by
  have fb := q.fin (by decide) (by omega)
  obtain ⟨q1, q2, q3⟩ := q
  have up := U8_pos
  have p2 : 0 ≤ ZF a := Int.le_trans (Int.mul_nonneg hl (by omega)) pa
  have hb0 : 0 < ZF b := by omega
  have hc := zdiv_core fa fb p2 hb0
  rw [← E8_val s6]
  refine hc.2 _ (E8_fits _) (E8_nn _) (by rw [E8_val s6]; exact Int.mul_nonneg h0 (by omega)) ?_
  rw [E8_val s6, U8_one, Int.natCast_mul]
  have g1 : l * U8 * ((8 : Int) * U8) ≤ ZF a * (8 * U8) := Int.mul_le_mul_of_nonneg_right pa (by omega)
  have g2 : l * (U8 : Int) * (8 * U8) = (8 * l) * (U8 * U8) := by ac_rfl
  have g3 : (m * h') * ((U8 : Int) * U8) ≤ (8 * l) * (U8 * U8) := Int.mul_le_mul_of_nonneg_right hm (Int.mul_nonneg (by omega) (by omega))
  have g4 : (m * h') * ((U8 : Int) * U8) = m * U8 * (h' * U8) := by ac_rfl
  have g5 : m * (U8 : Int) * ZF b ≤ m * U8 * (h' * U8) := Int.mul_le_mul_of_nonneg_left q3 (Int.mul_nonneg h0 (by omega))
  show _ ≤ ZF a * ((8 : Int) * U8)
  omega
theorem cmpV {a b : UInt64} (ha : FP.Core.val64 a ≠ .nan) (hb : FP.Core.val64 b ≠ .nan) (op : CmpOp) : Op.cmpValue (FP.dcmp a b) op = if ZF a < ZF b then -1 else if ZF a = ZF b then 0 else 1 := by
  rw [show FP.dcmp a b = _ from FP.Core.dcmp_zval ha hb, FP.Core.compare_ite]
  unfold ZF Op.cmpValue
  split <;> rename_i h
  · split at h
    · cases h
    · split at h
      · cases h
      · rename_i h1 h2
        rw [if_neg h1, if_neg h2]
  · split at h
    · cases h
    · split at h
      · rename_i h1 h2
        rw [if_neg h1, if_pos h2]
      · cases h
  · split at h
    · rename_i h1
      rw [if_pos h1]
    · split at h <;> cases h
  · cases h
theorem c_lt {a b : UInt64} {op : CmpOp} (ha : FP.Core.val64 a ≠ .nan) (hb : FP.Core.val64 b ≠ .nan) : (Op.cmpValue (FP.dcmp a b) op) < 0 ↔ ZF a < ZF b := by
  rw [cmpV ha hb]
  by_cases h : ZF a < ZF b
  · rw [if_pos h]; exact ⟨fun _ => h, fun _ => by decide⟩
  · rw [if_neg h]
    refine ⟨fun q => ?_, fun q => absurd q h⟩
    split at q <;> exact absurd q (by decide)
theorem c_ge {a b : UInt64} {op : CmpOp} (ha : FP.Core.val64 a ≠ .nan) (hb : FP.Core.val64 b ≠ .nan) : 0 ≤ (Op.cmpValue (FP.dcmp a b) op) ↔ ZF b ≤ ZF a := by
  rw [cmpV ha hb]
  by_cases h : ZF a < ZF b
  · rw [if_pos h]
    exact ⟨fun q => absurd q (by decide), fun q => by omega⟩
  · rw [if_neg h]
    refine ⟨fun _ => by omega, fun _ => ?_⟩
    split <;> decide
theorem c_le {a b : UInt64} {op : CmpOp} (ha : FP.Core.val64 a ≠ .nan) (hb : FP.Core.val64 b ≠ .nan) : (Op.cmpValue (FP.dcmp a b) op) ≤ 0 ↔ ZF a ≤ ZF b := by
  rw [cmpV ha hb]
  by_cases h : ZF a < ZF b
  · rw [if_pos h]; exact ⟨fun _ => by omega, fun _ => by decide⟩
  · rw [if_neg h]
    by_cases h2 : ZF a = ZF b
    · rw [if_pos h2]; exact ⟨fun _ => by omega, fun _ => by decide⟩
    · rw [if_neg h2]; exact ⟨fun q => absurd q (by decide), fun q => by omega⟩
theorem c_gt {a b : UInt64} {op : CmpOp} (ha : FP.Core.val64 a ≠ .nan) (hb : FP.Core.val64 b ≠ .nan) : 0 < (Op.cmpValue (FP.dcmp a b) op) ↔ ZF b < ZF a := by
  rw [cmpV ha hb]
  by_cases h : ZF a < ZF b
  · rw [if_pos h]; exact ⟨fun q => absurd q (by decide), fun q => by omega⟩
  · rw [if_neg h]
    by_cases h2 : ZF a = ZF b
    · rw [if_pos h2]; exact ⟨fun q => absurd q (by decide), fun q => by omega⟩
    · rw [if_neg h2]; exact ⟨fun _ => by omega, fun _ => by decide⟩
/-- the comparison's kind makes no odds for numbers -/
theorem c_op {a b : UInt64} (ha : FP.Core.val64 a ≠ .nan) (hb : FP.Core.val64 b ≠ .nan) (op op' : CmpOp) : Op.cmpValue (FP.dcmp a b) op = Op.cmpValue (FP.dcmp a b) op' := by rw [cmpV ha hb, cmpV ha hb]
