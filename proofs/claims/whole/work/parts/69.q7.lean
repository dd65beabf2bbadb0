/-- the coins, both sides -/
def CV (M : Nat) (σ τ : ST) : Prop := ∃ u c : Nat, sI σ 2 0 = nI u ∧ sI σ 1 0 = nI (u + c) ∧ sI τ 1034 0 = nI c ∧ c ≤ 64 ∧ 0 ≤ M ∧ ∀ k, k < c → sD σ 0 ((u + k) % 64) = sD τ 1035 k
theorem CV.congr {M : Nat} {σ τ σ' τ' : ST} (h : CV M σ τ) (h1 : sI σ' 1 0 = sI σ 1 0) (h2 : sI σ' 2 0 = sI σ 2 0) (h3 : ∀ k, sD σ' 0 k = sD σ 0 k) (h4 : sI τ' 1034 0 = sI τ 1034 0) (h5 : ∀ k, sD τ' 1035 k = sD τ 1035 k) : CV M σ' τ' := by
  obtain ⟨u, c, a1, a2, a3, a4, a5, a6⟩ := h
  exact ⟨u, c, by rw [h2]; exact a1, by rw [h1]; exact a2, by rw [h4]; exact a3, a4, a5, fun k hk => by rw [h3, h5]; exact a6 k hk⟩
theorem coin_loop {σ z0 : ST} {L : Nat} (hL : L ≤ 63) (hz : sI z0 1034 0 = nI L) : ∀ (d x : Nat) (z : ST), x + d = L → (∀ f k, sI z f k = sI z0 f k) → (∀ k, k < x → sD z 1035 k = sD z0 1035 (k + 1)) → (∀ f k, ¬ (f = 1035 ∧ k < x) → sD z f k = sD z0 f k) →
    ∃ z', (∀ K : UInt64 → ST → Prop, K (sD σ 1035 0) z' → wp_X9_useCoin_L30 σ K (d + 1) z (nI x)) ∧ (∀ k, k < L → sD z' 1035 k = sD z0 1035 (k + 1)) ∧ (∀ f k, f ≠ 1035 → sD z' f k = sD z0 f k) ∧ (∀ f k, sI z' f k = sI z0 f k) := by
  intro d
  induction d with
  | zero =>
    intro x z hx h1 h2 h3
    have e : x = L := by omega
    subst e
    refine ⟨z, fun K hK => ⟨fun _ => hK, fun q => ?_⟩, fun k hk => h2 k hk, fun f k a => h3 f k (by omega), h1⟩
    rw [h1, hz] at q
    exact absurd (nI_le (Nat.le_refl x) (by omega)) q
  | succ d ih =>
    intro x z hx h1 h2 h3
    obtain ⟨z', k', r⟩ := ih (x + 1) (upD z 1035 x (sD z 1035 (x + 1))) (by omega) (fun f k => h1 f k)
      (fun k hk => by
        rw [sD_upD]
        by_cases e : k = x
        · subst e; rw [if_pos ⟨rfl, rfl⟩]; exact h3 _ _ (by omega)
        · rw [if_neg (fun q => e q.2)]; exact h2 k (by omega))
      (fun f k hk => by rw [sD_upD, if_neg (by omega)]; exact h3 f k (by omega))
    refine ⟨z', fun K hK => ⟨fun q => ?_, fun _ => ⟨?_, ?_, fun s5 e5 => ?_⟩⟩, r⟩
    · rw [h1, hz] at q
      exact absurd q (nI_ge (by omega) (by omega))
    · rw [nI_1]; exact vp_in_nI (by omega) (by decide)
    · exact vp_in_nI (by omega) (by decide)
    · subst e5
      rw [nI_1, nI_clamp (by omega), nI_clamp (by omega)]
      exact k' K hK
theorem and63 (u : Nat) : nI u &&& 63 = nI (u % 64) := by
  have e : (nI u).toBitVec.toNat = u % 2 ^ 32 := rfl
  rw [pk_and (nI u) 6 (by decide), e]
  exact congrArg nI (Nat.mod_mod_of_dvd u (by decide))
/-- a coin used, both sides -/
theorem use_ok {n M : Nat} {σ τ : ST} (h : CV M σ τ) (hM : M ≤ 1000) :
    ∃ (x : UInt64) (σ' τ' : ST), (∀ K : UInt64 → ST → Prop, K x σ' → wp_X0_use n σ K) ∧ (∀ K : UInt64 → ST → Prop, K x τ' → wp_X9_useCoin τ K) ∧ CV M σ' τ' ∧ (∀ f k, f ≠ 2 → sI σ' f k = sI σ f k) ∧ (∀ f k, sD σ' f k = sD σ f k) ∧ (∀ f k, sR σ' f k = sR σ f k) ∧ (∀ f k, f ≠ 1034 → sI τ' f k = sI τ f k) ∧ (∀ f k, f ≠ 1035 → sD τ' f k = sD τ f k) := by
  obtain ⟨u, c, a1, a2, a3, a4, a5, a6⟩ := id h
  have hw : sI σ 1 0 - sI σ 2 0 = nI c := by rw [a1, a2, pk_sub (by omega), Nat.add_sub_cancel_left]
  by_cases hc : c = 0
  · refine ⟨4602678819172646912, σ, τ, fun K hK => ?_, fun K hK => ?_, h, fun _ _ _ => rfl, fun _ _ => rfl, fun _ _ => rfl, fun _ _ _ => rfl, fun _ _ _ => rfl⟩
    · unfold wp_X0_use wp_X0_waiting
      rw [hw, hc]
      exact ⟨fun q => absurd q (by decide), fun _ => hK⟩
    · unfold wp_X9_useCoin
      rw [a3, hc]
      exact ⟨fun q => absurd rfl q, fun _ => hK⟩
  · have hz : sI (upI τ 1034 0 (sI τ 1034 0 - 1)) 1034 0 = nI (c - 1) := by
      rw [sI_upI, if_pos ⟨rfl, rfl⟩, a3]
      have := pk_sub (a := c) (b := 1) (by omega)
      exact this
    obtain ⟨z', k', h1, h2, h3⟩ := coin_loop (σ := τ) (z0 := upI τ 1034 0 (sI τ 1034 0 - 1)) (L := c - 1) (by omega) hz (c - 1) 0 _ (by omega) (fun _ _ => rfl) (fun k hk => absurd hk (by omega)) (fun _ _ _ => rfl)
    have e0 : sD σ 0 (u % 64) = sD τ 1035 0 := by have := a6 0 (by omega); rw [Nat.add_zero] at this; exact this
    refine ⟨sD τ 1035 0, upI σ 2 0 (nI (u + 1)), z', fun K hK => ?_, fun K hK => ?_, ⟨u + 1, c - 1, ?_, ?_, ?_, by omega, by omega, fun k hk => ?_⟩, fun f k q => by rw [sI_upI, if_neg (by omega)], fun _ _ => rfl, fun _ _ => rfl, fun f k q => by rw [h3, sI_upI, if_neg (by omega)], fun f k q => by rw [h2 f k q]; rfl⟩
    · unfold wp_X0_use wp_X0_waiting
      rw [hw]
      refine ⟨fun _ => ?_, fun q => absurd (nI_lt (show 0 < c by omega) (by omega)) q⟩
      unfold wp_X0_place
      rw [a1, and63]
      refine ⟨vp_in_nI (Nat.mod_lt _ (by decide)) (by decide), fun s6 e6 => ?_⟩
      rw [nI_clamp (by have := Nat.mod_lt u (show 0 < 64 by decide); omega), e0]
      rw [a1, nI_1] at e6
      subst e6
      exact hK
    · unfold wp_X9_useCoin
      refine ⟨fun _ => ⟨vp_in_nI (n := 0) (by decide) (by decide), fun s2 e2 => ⟨c - 1 + 1, ?_⟩⟩, fun q => ?_⟩
      · subst e2
        exact k' K hK
      · rw [a3] at q
        exact absurd q (nI_ne0 (by omega) (by omega))
    · rw [sI_upI, if_pos ⟨rfl, rfl⟩]
    · rw [sI_upI, if_neg (by omega), a2]; congr 1; omega
    · rw [h3]; exact hz
    · rw [h1 k (by omega)]
      have := a6 (k + 1) (by omega)
      rw [show u + 1 + k = u + (k + 1) by omega]
      exact this
theorem bd_mulA {h h' m : Int} {a b : UInt64} (p : bd (-h) h a) (q : bd 0 h' b) (s2 : sm h) (s4 : sm h') (s6 : sm m) (h0 : 0 ≤ h) (hm : h * h' ≤ 8 * m) : bd (-m) m (FP.dmul a b) := by
  have fa := p.fin (by omega) (by omega)
  have fb := q.fin (by omega) (by omega)
  obtain ⟨p1, p2, p3⟩ := p
  obtain ⟨q1, q2, q3⟩ := q
  rw [Int.zero_mul] at q2
  have up := U8_pos
  have hh : 0 ≤ h * (U8 : Int) := Int.mul_nonneg h0 (by omega)
  have g2 : (h * (U8 : Int)) * (h' * U8) = (h * h') * (U8 * U8) := by ac_rfl
  have g3 : m * (U8 : Int) * ((8 * U8 : Nat) : Int) = (8 * m) * (U8 * U8) := by rw [Int.natCast_mul]; show m * (U8 : Int) * (8 * (U8 : Int)) = _; ac_rfl
  have g4 : (h * h') * ((U8 : Int) * U8) ≤ (8 * m) * (U8 * U8) := Int.mul_le_mul_of_nonneg_right hm (Int.mul_nonneg (by omega) (by omega))
  have g5 : h * (U8 : Int) * ZF b ≤ h * U8 * (h' * U8) := Int.mul_le_mul_of_nonneg_left q3 hh
  have g6 : ZF a * ZF b ≤ h * U8 * ZF b := Int.mul_le_mul_of_nonneg_right p3 q2
  have g7 : -(h * (U8 : Int)) * ZF b ≤ ZF a * ZF b := Int.mul_le_mul_of_nonneg_right (by rw [← Int.neg_mul]; exact p2) q2
  rw [Int.neg_mul] at g7
  have sm' : sm (-m) := by unfold sm at *; omega
  refine ⟨nn_of (FP.Core.dmul_out fa fb), ?_, ?_⟩
  · rw [← E8_val sm']
    refine zmul_ge fa fb (E8_fits _) (E8_nn _) ?_
    rw [E8_val sm', U8_one, Int.neg_mul, Int.neg_mul, g3]
    omega
  · rw [← E8_val s6]
    refine zmul_le fa fb (E8_fits _) (E8_nn _) ?_
    rw [E8_val s6, U8_one, g3]
    omega
theorem cnt_bd (x : Int32) : bd (-17179869184) 17179869184 (FP.i2d x) := by
  have := FP.Core.int32_abs x
  exact (bd_i2d x).weaken (by omega) (by omega)
/-- the average after a packet came -/
theorem avg_up {q : Nat} {av w : UInt64} (hq : q ≤ 100) (ha : bd 0 1600 av) (hw : bd 0 8 w) : vf_n64 (FP.dsub (FP.i2d (nI q)) av) ∧ vf_n64 (FP.dmul w (FP.dsub (FP.i2d (nI q)) av)) ∧ vf_n64 (FP.dadd av (FP.dmul w (FP.dsub (FP.i2d (nI q)) av))) ∧ bd 0 1600 (FP.dadd av (FP.dmul w (FP.dsub (FP.i2d (nI q)) av))) := by
  have up := U8_pos
  have hn : bd 0 800 (FP.i2d (nI q)) := by
    have := bd_i2d (nI q)
    rw [nI_toInt (by omega)] at this
    exact this.weaken (by omega) (by omega)
  have hs := bd_sub hn ha (by decide) (by decide) (by decide) (by decide) (by decide) (by decide)
  have fn := hn.fin (by decide) (by decide)
  have fa := ha.fin (by decide) (by decide)
  have fs := hs.fin (by decide) (by decide)
  have fw := hw.fin (by decide) (by decide)
  obtain ⟨x, ex⟩ : ∃ x, x = FP.dsub (FP.i2d (nI q)) av := ⟨_, rfl⟩
  have hx1 : - ZF av ≤ ZF x := by
    rw [ex, ← zneg]
    exact zsub_ge fn fa (FP.Core.val64_fits _) (fin_neg fa).ne_nan (by show ZF (FP.Core.dneg av) ≤ _; rw [zneg]; have := hn.2.1; omega)
  have hx2 : ZF x ≤ 800 * (U8 : Int) := by
    rw [ex, ← E8_val (m := 800) (by decide)]
    exact zsub_le fn fa (E8_fits _) (E8_nn _) (by rw [E8_val (by decide)]; have := hn.2.2; have := ha.2.1; omega)
  rw [← ex] at hs fs ⊢
  have hw1 : ZF w ≤ (FP.Core.one64 : Int) := by rw [U8_one, Int.natCast_mul]; exact hw.2.2
  have hw0 : 0 ≤ ZF w := by have := hw.2.1; omega
  have ny : FP.Core.val64 (FP.dmul w x) ≠ .nan := nn_of (FP.Core.dmul_out fw fs)
  have ob : (0 : Int) < (FP.Core.one64 : Int) := by have := FP.Core.one64_pos; omega
  obtain ⟨y, ey⟩ : ∃ y, y = FP.dmul w x := ⟨_, rfl⟩
  -- the product lies between 0 and x
  have hy : (0 ≤ ZF x → 0 ≤ ZF y ∧ ZF y ≤ ZF x) ∧ (ZF x ≤ 0 → ZF x ≤ ZF y ∧ ZF y ≤ 0) := by
    have z0 : ZV (E8 0) = 0 := by rw [E8_val (by decide)]; omega
    refine ⟨fun h => ⟨?_, ?_⟩, fun h => ⟨?_, ?_⟩⟩
    · rw [ey, ← z0]
      exact zmul_ge fw fs (E8_fits _) (E8_nn _) (by rw [z0, Int.zero_mul]; exact Int.mul_nonneg hw0 h)
    · rw [ey]
      exact zmul_le fw fs (FP.Core.val64_fits _) fs.ne_nan (by rw [Int.mul_comm]; exact Int.mul_le_mul_of_nonneg_left hw1 h)
    · rw [ey]
      exact zmul_ge fw fs (FP.Core.val64_fits _) fs.ne_nan (by rw [Int.mul_comm (ZF w)]; exact Int.mul_le_mul_of_nonpos_left h hw1)
    · rw [ey, ← z0]
      exact zmul_le fw fs (E8_fits _) (E8_nn _) (by rw [z0, Int.zero_mul]; exact Int.mul_nonpos_of_nonneg_of_nonpos hw0 h)
  rw [← ey] at ny ⊢
  have fy : FP.Core.DFin y := by
    refine bd.fin (l := -2000) (h := 2000) ⟨ny, ?_, ?_⟩ (by decide) (by decide)
    · have := ha.2.2
      by_cases h : 0 ≤ ZF x
      · have := (hy.1 h).1; omega
      · have := (hy.2 (by omega)).1; omega
    · by_cases h : 0 ≤ ZF x
      · have := (hy.1 h).2; omega
      · have := (hy.2 (by omega)).2; omega
  have nz : FP.Core.val64 (FP.dadd av y) ≠ .nan := nn_of (FP.Core.dadd_out fa.notNaN fy)
  refine ⟨hs.n64, n64_of ny, n64_of nz, nz, ?_, ?_⟩
  · rw [← E8_val (m := 0) (by decide)]
    refine zadd_ge fa fy (E8_fits _) (E8_nn _) ?_
    rw [E8_val (by decide)]
    have := ha.2.1
    by_cases h : 0 ≤ ZF x
    · have := (hy.1 h).1; omega
    · have := (hy.2 (by omega)).1; omega
  · rw [← E8_val (m := 1600) (by decide)]
    refine zadd_le fa fy (E8_fits _) (E8_nn _) ?_
    rw [E8_val (by decide)]
    have h9 := ha.2.2
    by_cases h : ZF x ≤ 0
    · have := (hy.2 h).2; omega
    · have h1 := (hy.1 (by omega)).2
      -- x positive: the average is at most q
      have h2 : ZF av ≤ 800 * (U8 : Int) := by
        refine Int.not_lt.mp fun h3 => h ?_
        rw [ex, ← show ZV (E8 0) = 0 by rw [E8_val (by decide)]; omega]
        exact zsub_le fn fa (E8_fits _) (E8_nn _) (by rw [E8_val (by decide)]; have := hn.2.2; omega)
      omega
theorem avg_down {av w : UInt64} (ha : bd 0 1600 av) (hw : bd 0 8 w) : vf_n64 (FP.dsub FP.dconst1 w) ∧ vf_n64 (FP.dmul av (FP.dsub FP.dconst1 w)) ∧ bd 0 1600 (FP.dmul av (FP.dsub FP.dconst1 w)) := by
  have hs : bd 0 8 (FP.dsub FP.dconst1 w) := bd_sub bd_1 hw (by decide) (by decide) (by decide) (by decide) (by decide) (by decide)
  have hm : bd 0 1600 (FP.dmul av (FP.dsub FP.dconst1 w)) := bd_mul ha hs (by decide) (by decide) (by decide) (by decide)
  exact ⟨hs.n64, hm.n64, hm⟩
