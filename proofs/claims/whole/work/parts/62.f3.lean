theorem bd_lit {a : UInt64} (x : Int32) (k : Int) (h : a = FP.i2d x) (hk : 8 * x.toInt = k) : bd k k a := by rw [h, ← hk]; exact bd_i2d x
theorem bd_2 : bd 16 16 4611686018427387904 := bd_lit 2 16 (by decide +kernel) (by decide)
theorem bd_1 : bd 8 8 FP.dconst1 := bd_lit 1 8 (by decide +kernel) (by decide)
theorem bd_0 : bd 0 0 FP.dconst0 := bd_lit 0 0 (by decide +kernel) (by decide)
theorem bd_16 : bd 128 128 4625196817309499392 := bd_lit 16 128 (by decide +kernel) (by decide)
theorem bd_1000 : bd 8000 8000 4652007308841189376 := bd_lit 1000 8000 (by decide +kernel) (by decide)
theorem bd_10000 : bd 80000 80000 4666723172467343360 := bd_lit 10000 80000 (by decide +kernel) (by decide)
theorem bd_5 : bd 40 40 4617315517961601024 := bd_lit 5 40 (by decide +kernel) (by decide)
theorem bd_15 : bd 120 120 4624633867356078080 := bd_lit 15 120 (by decide +kernel) (by decide)
theorem bd_100 : bd 800 800 4636737291354636288 := bd_lit 100 800 (by decide +kernel) (by decide)
theorem bd_eq {a : UInt64} {k : Int} (h : bd k k a) : ZF a = k * (U8 : Int) := by
  obtain ⟨_, h1, h2⟩ := h
  omega
theorem bd_e : bd 1 1 4593671619917905920 := by
  have h : FP.Core.val64 4593671619917905920 = .fin false (2 ^ 52) (-55) := by decide +kernel
  have e : ZF 4593671619917905920 = 1 * (U8 : Int) := by
    unfold ZF
    rw [h]
    show ((FP.Core.inUnits (2 ^ 52) (-55) FP.Core.b64.qmin : Nat) : Int) = _
    have : FP.Core.inUnits (2 ^ 52) (-55) FP.Core.b64.qmin = FP.Core.inUnits 1 (-3) FP.Core.b64.qmin := by decide +kernel
    rw [this, E8_in, Nat.one_mul, Int.one_mul]
  refine ⟨by rw [h]; exact FP.Core.Datum.noConfusion, ?_, ?_⟩ <;> rw [e] <;> exact Int.le_refl _
theorem bd_m {x : Int32} : bd x.toInt x.toInt (FP.dmul (FP.i2d x) 4593671619917905920) := by
  have ha := bd_i2d x
  have hx := FP.Core.int32_abs x
  have fa := ha.fin (by omega) (by omega)
  have fb := bd_e.fin (by decide) (by decide)
  have ea := bd_eq ha
  have eb := bd_eq bd_e
  have hs : sm x.toInt := by unfold sm; omega
  have hp : ZF (FP.i2d x) * ZF 4593671619917905920 = x.toInt * (U8 : Int) * (FP.Core.one64 : Int) := by
    rw [ea, eb, U8_one, Int.natCast_mul, Int.one_mul]
    show 8 * x.toInt * (U8 : Int) * (U8 : Int) = x.toInt * (U8 : Int) * (8 * (U8 : Int))
    ac_rfl
  refine ⟨nn_of (FP.Core.dmul_out fa fb), ?_, ?_⟩
  · rw [← E8_val hs]
    exact zmul_ge fa fb (E8_fits _) (E8_nn _) (by rw [E8_val hs, hp]; exact Int.le_refl _)
  · rw [← E8_val hs]
    exact zmul_le fa fb (E8_fits _) (E8_nn _) (by rw [E8_val hs, hp]; exact Int.le_refl _)
theorem bd_tenth : bd 0 8 4591870180066957722 := by
  have h : FP.dcmp 4591870180066957722 FP.dconst1 = some .lt := by decide +kernel
  have h2 : FP.dcmp FP.dconst0 4591870180066957722 = some .lt := by decide +kernel
  obtain ⟨a1, a2, a3⟩ := FP.Core.dcmp_lt.mp h
  obtain ⟨b1, b2, b3⟩ := FP.Core.dcmp_lt.mp h2
  refine ⟨a1, ?_, ?_⟩
  · have := bd_eq bd_0
    show _ ≤ FP.Core.zval FP.Core.b64 _
    unfold ZF at this
    omega
  · have := bd_eq bd_1
    show FP.Core.zval FP.Core.b64 _ ≤ _
    unfold ZF at this
    omega
theorem bd_quart : bd 0 8 4598175219545276416 := by
  have h : (4598175219545276416 : UInt64) = FP.dmul (FP.i2d 2) 4593671619917905920 := by decide +kernel
  rw [h]
  exact bd_m.weaken (by decide) (by decide)
/-- the root's steps, both sides alike -/
theorem root_step {c : Nat} (h1 : 1 ≤ c) (h2 : c ≤ 1000) {x : UInt64} (hx : bd 4 16000 x) :
    vf_n64 (FP.ddiv (FP.i2d (nI c)) x) ∧ vf_n64 (FP.dadd x (FP.ddiv (FP.i2d (nI c)) x)) ∧ vf_n64 (FP.ddiv (FP.dadd x (FP.ddiv (FP.i2d (nI c)) x)) 4611686018427387904) ∧ bd 4 16000 (FP.ddiv (FP.dadd x (FP.ddiv (FP.i2d (nI c)) x)) 4611686018427387904) := by
  have hc : (nI c).toInt = c := nI_toInt (by omega)
  have hn := bd_i2d (nI c)
  rw [hc] at hn
  have up := U8_pos
  have fx := hx.fin (by decide) (by decide)
  have hq : bd 0 16000 (FP.ddiv (FP.i2d (nI c)) x) := bd_div (h := 8 * c) (l' := 4) (hn.weaken (by omega) (by omega)) fx hx.2.1 (by decide) (by unfold sm; omega) (by decide) (by decide) (by omega)
  have hs := bd_add hx hq (by decide) (by decide) (by decide) (by decide) (by decide) (by decide)
  have fq := hq.fin (by decide) (by decide)
  have hs8 : (8 : Int) * (U8 : Int) ≤ ZF (FP.dadd x (FP.ddiv (FP.i2d (nI c)) x)) := by
    rw [← E8_val (m := 8) (by decide)]
    refine zadd_ge fx fq (E8_fits _) (E8_nn _) ?_
    rw [E8_val (by decide)]
    have q0 := hq.2.1
    have x0 := hx.2.1
    by_cases hb : (8 : Int) * (U8 : Int) ≤ ZF x
    · omega
    · have hx8 : bd 1 8 x := ⟨hx.1, by omega, by omega⟩
      have := bd_divge (l := 8) (m := 8) (hn.fin (by omega) (by omega)) (by have := hn.2.1; exact Int.le_trans (Int.mul_le_mul_of_nonneg_right (by omega) (by omega)) this) hx8 (by decide) (by decide) (by decide) (by decide) (by decide)
      omega
  have hs' : bd 8 32000 (FP.dadd x (FP.ddiv (FP.i2d (nI c)) x)) := ⟨hs.1, hs8, hs.2.2⟩
  have fs := hs'.fin (by decide) (by decide)
  have f2 := bd_2.fin (by decide) (by decide)
  have r1 : bd 0 16000 (FP.ddiv (FP.dadd x (FP.ddiv (FP.i2d (nI c)) x)) 4611686018427387904) := bd_div (h := 32000) (l' := 16) (hs'.weaken (by decide) (by decide)) f2 bd_2.2.1 (by decide) (by decide) (by decide) (by decide) (by decide)
  have r2 := bd_divge (l := 8) (m := 4) fs hs8 (bd_2.weaken (l' := 1) (by decide) (Int.le_refl _)) (by decide) (by decide) (by decide) (by decide) (by decide)
  exact ⟨hq.n64, hs.n64, r1.n64, r1.1, r2, r1.2.2⟩
theorem root_loop {c : Nat} (h1 : 1 ≤ c) (h2 : c ≤ 1000) : ∀ (d t : Nat) (x : UInt64), t + d = 20 → bd 4 16000 x → ∃ y, bd 4 16000 y ∧ (∀ (n : Nat) (s : ST) (K : UInt64 → ST → Prop), K y s → wp_X1_root_L5 n (nI c) K (d + 1) s (nI t) x) ∧ (∀ (s : ST) (K : UInt64 → ST → Prop), K y s → wp_X9_root_L5 (nI c) K (d + 1) s (nI t) x) := by
  intro d
  induction d with
  | zero =>
    intro t x ht hx
    have e : t = 20 := by omega
    subst e
    exact ⟨x, hx, fun n s K hK => ⟨fun _ => hK, fun q => absurd (by decide) q⟩, fun s K hK => ⟨fun _ => hK, fun q => absurd (by decide) q⟩⟩
  | succ d ih =>
    intro t x ht hx
    obtain ⟨r1, r2, r3, r4⟩ := root_step h1 h2 hx
    obtain ⟨y, hy, k1, k2⟩ := ih (t + 1) _ (by omega) r4
    have hlt : ¬ (20 : Int32) ≤ nI t := nI_ge (b := 20) (by omega) (by decide)
    have hpos : ¬ (Op.cmpValue (FP.dcmp x FP.dconst0) .l) ≤ 0 := fun q => by
      have q := (c_le hx.1 bd_0.1).mp q
      have := bd_eq bd_0
      have := hx.2.1
      have := U8_pos
      omega
    refine ⟨y, hy, fun n s K hK => ⟨fun q => absurd q hlt, fun _ => ⟨fun q => absurd q hpos, fun _ => ⟨r1, r2, r3, ?_⟩⟩⟩, fun s K hK => ⟨fun q => absurd q hlt, fun _ => ⟨r1, r2, r3, ?_⟩⟩⟩
    · rw [nI_1]; exact k1 n s K hK
    · rw [nI_1]; exact k2 s K hK
theorem root_ok {c : Nat} (h1 : 1 ≤ c) (h2 : c ≤ 1000) : ∃ y, bd 4 16000 y ∧ (∀ (n : Nat) (s : ST) (K : UInt64 → ST → Prop), K y s → wp_X1_root n s (nI c) K) ∧ (∀ (s : ST) (K : UInt64 → ST → Prop), K y s → wp_X9_root s (nI c) K) := by
  have hc : (nI c).toInt = c := nI_toInt (by omega)
  have hn := bd_i2d (nI c)
  rw [hc] at hn
  obtain ⟨y, hy, k1, k2⟩ := root_loop h1 h2 20 0 (FP.i2d (nI c)) (by omega) (hn.weaken (by omega) (by omega))
  exact ⟨y, hy, fun n s K hK => ⟨21, k1 n s K hK⟩, fun s K hK => ⟨21, k2 s K hK⟩⟩
