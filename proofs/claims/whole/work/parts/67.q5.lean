/-- the delay's words of the class j, both sides; m bounds the counts -/
def DV (m : Nat) (σ τ : ST) (j : Nat) : Prop := (sD σ 16 j = sD τ 1015 j ∧ sD σ 17 j = sD τ 1016 j ∧ sD σ 19 j = sD τ 1017 j ∧ sI σ 18 j = sI τ 1018 j ∧ sI σ 20 j = sI τ 1019 j ∧ sI σ 22 j = sI τ 1021 j ∧ sI σ 23 j = sI τ 1022 j) ∧ (sD σ 21 j = sD τ 1020 j ∨ (sI σ 20 j = 0 ∧ sI σ 22 j = 0 ∧ sI σ 23 j = 0)) ∧ bd 1 80000 (sD σ 16 j) ∧ bd 1 80000 (sD σ 17 j) ∧ bd 0 5000000 (sD σ 21 j) ∧ ∃ c e : Nat, sI σ 22 j = nI c ∧ sI σ 23 j = nI e ∧ c ≤ m ∧ e ≤ m
theorem DV.congr {m : Nat} {σ τ σ' τ' : ST} {j : Nat} (h : DV m σ τ j) (h1 : ∀ f, f = 18 ∨ f = 20 ∨ f = 22 ∨ f = 23 → sI σ' f j = sI σ f j) (h2 : ∀ f, 16 ≤ f ∧ f ≤ 21 → sD σ' f j = sD σ f j) (h3 : ∀ f, 1018 ≤ f ∧ f ≤ 1022 → sI τ' f j = sI τ f j) (h4 : ∀ f, 1015 ≤ f ∧ f ≤ 1020 → sD τ' f j = sD τ f j) : DV m σ' τ' j := by
  unfold DV
  rw [h1 18 (by omega), h1 20 (by omega), h1 22 (by omega), h1 23 (by omega), h2 16 (by omega), h2 17 (by omega), h2 19 (by omega), h2 21 (by omega), h3 1018 (by omega), h3 1019 (by omega), h3 1021 (by omega), h3 1022 (by omega), h4 1015 (by omega), h4 1016 (by omega), h4 1017 (by omega), h4 1020 (by omega)]
  exact h
theorem DV.mono {m m' : Nat} {σ τ : ST} {j : Nat} (h : DV m σ τ j) (hm : m ≤ m') : DV m' σ τ j := by
  obtain ⟨a, b, c, d, e, x, y, p, q, r, s⟩ := h
  exact ⟨a, b, c, d, e, x, y, p, q, by omega, by omega⟩
/-- what the delay's hit may change -/
def frD (j : Nat) (σ σ' τ τ' : ST) : Prop := (∀ f k, sR σ' f k = sR σ f k) ∧ (∀ f k, ¬ ((f = 18 ∨ f = 20 ∨ f = 22 ∨ f = 23) ∧ k = j) → sI σ' f k = sI σ f k) ∧ (∀ f k, ¬ ((f = 19 ∨ f = 21) ∧ k = j) → sD σ' f k = sD σ f k) ∧ (∀ f k, ¬ ((f = 1018 ∨ f = 1019 ∨ f = 1021 ∨ f = 1022) ∧ k = j) → sI τ' f k = sI τ f k) ∧ (∀ f k, ¬ ((f = 1017 ∨ f = 1020) ∧ k = j) → sD τ' f k = sD τ f k)
theorem frD.rf {j : Nat} {σ τ : ST} : frD j σ σ τ τ := ⟨fun _ _ => rfl, fun _ _ _ => rfl, fun _ _ _ => rfl, fun _ _ _ => rfl, fun _ _ _ => rfl⟩
theorem frD.trans {j : Nat} {σ τ σ1 τ1 σ2 τ2 : ST} (a : frD j σ σ1 τ τ1) (b : frD j σ1 σ2 τ1 τ2) : frD j σ σ2 τ τ2 :=
  ⟨fun f k => (b.1 f k).trans (a.1 f k), fun f k h => (b.2.1 f k h).trans (a.2.1 f k h), fun f k h => (b.2.2.1 f k h).trans (a.2.2.1 f k h), fun f k h => (b.2.2.2.1 f k h).trans (a.2.2.2.1 f k h), fun f k h => (b.2.2.2.2 f k h).trans (a.2.2.2.2 f k h)⟩
theorem now_bd {now : Nat} (h : now ≤ 512000) : bd 0 4096000 (FP.i2d (nI now)) := by
  have := bd_i2d (nI now)
  rw [nI_toInt (by omega)] at this
  exact this.weaken (by omega) (by omega)
theorem late_ok {n m j now : Nat} {σ τ : ST} {wt em : Int32} (hj : j < 6) (D : DV m σ τ j) (hnow : sI τ 1001 0 = nI now) (hn : now ≤ 512000) (hw : sI τ 1001 0 - sI τ 1040 0 = wt) (hem : (em = 0 ∧ ¬ sI τ 1023 j = 0) ∨ (em = 1 ∧ sI τ 1023 j = 0)) :
    ∃ lt σ1 τ1, (∀ K : Int32 → ST → Prop, K lt σ1 → wp_X1_isLate n σ j wt (nI now) em K) ∧ (∀ K : Int32 → ST → Prop, wp_X9_isHit_J99 (nI j) τ K τ1 lt → wp_X9_isHit τ (nI j) K) ∧ DV m σ1 τ1 j ∧ frD j σ σ1 τ τ1 := by
  have hin : vp_in (nI j) 6 := vp_in_nI hj (by decide)
  have hc : (nI j).toNatClampNeg = j := nI_clamp (by omega)
  obtain ⟨⟨a1, a2, a3, a4, a5, a6, a7⟩, D2, D3, D4, D5, c0, e0, D6, D7, D8, D9⟩ := id D
  have hoff : DV m (upI σ 18 j 0) (upI τ 1018 j 0) j := by
    unfold DV
    simp only [sI_upI, sD_upI]
    simp only [true_and, if_true, show ¬ ((20 : Nat) = 18) by decide, show ¬ ((22 : Nat) = 18) by decide, show ¬ ((23 : Nat) = 18) by decide, show ¬ ((1019 : Nat) = 1018) by decide, show ¬ ((1021 : Nat) = 1018) by decide, show ¬ ((1022 : Nat) = 1018) by decide, false_and, if_false]
    exact ⟨⟨a1, a2, a3, a5, a6, a7⟩, D2, D3, D4, D5, c0, e0, D6, D7, D8, D9⟩
  have hofr : frD j σ (upI σ 18 j 0) τ (upI τ 1018 j 0) := ⟨fun _ _ => rfl, fun f k h => by rw [sI_upI, if_neg (by omega)], fun _ _ _ => rfl, fun f k h => by rw [sI_upI, if_neg (by omega)], fun _ _ _ => rfl⟩
  by_cases h1 : (Op.cmpValue (FP.dcmp (FP.i2d wt) (sD σ 16 j)) .g) < 0
  · refine ⟨0, upI σ 18 j 0, upI τ 1018 j 0, fun K hK => ⟨hj, fun _ s2 e2 => (by subst e2; exact hK), fun q => absurd h1 q⟩, fun K hK => ?_, hoff, hofr⟩
    unfold wp_X9_isHit
    rw [hc, hw, ← a1]
    refine ⟨hin, fun _ => ?_, fun q => absurd h1 q⟩
    unfold wp_X9_isHit_J38
    rw [hc]
    exact ⟨hin, fun s34 e34 => by subst e34; exact hK⟩
  · rcases hem with ⟨e1, hq⟩ | ⟨e1, hq⟩
    · by_cases h18 : sI σ 18 j = 0
      · have hb := now_bd hn
        have hs := bd_add hb D4 (by decide) (by decide) (by decide) (by decide) (by decide) (by decide)
        refine ⟨0, upD (upI σ 18 j 1) 19 j (FP.dadd (FP.i2d (nI now)) (sD σ 17 j)), upD (upI τ 1018 j 1) 1017 j (FP.dadd (FP.i2d (nI now)) (sD σ 17 j)), fun K hK => ?_, fun K hK => ?_, ?_, ?_⟩
        · exact ⟨hj, fun q => absurd q h1, fun _ => ⟨fun _ => ⟨fun q => absurd h18 q, fun _ s3 e3 => (by subst e3; exact ⟨hs.n64, fun s4 e4 => by subst e4; exact hK⟩)⟩, fun q => absurd e1 q⟩⟩
        · unfold wp_X9_isHit
          rw [hc, hw, ← a1, ← a4, hnow]
          refine ⟨hin, fun q => absurd q h1, fun _ => ⟨hin, fun _ => ⟨hin, fun q => absurd h18 q, fun _ => ⟨hin, fun s39 e39 => ⟨hin, ?_, hin, fun s42 e42 => ?_⟩⟩⟩, fun q => absurd q hq⟩⟩
          · subst e39; rw [sD_upI, ← a2]; exact hs.n64
          · subst e39; subst e42; rw [sD_upI, ← a2]; exact hK
        · unfold DV
          simp only [sI_upI, sD_upI, sI_upD, sD_upD]
          simp only [true_and, and_true, if_true, false_and, if_false, show ¬ ((16 : Nat) = 19) by decide, show ¬ ((17 : Nat) = 19) by decide, show ¬ ((21 : Nat) = 19) by decide, show ¬ ((1015 : Nat) = 1017) by decide, show ¬ ((1016 : Nat) = 1017) by decide, show ¬ ((1020 : Nat) = 1017) by decide, show ¬ ((20 : Nat) = 18) by decide, show ¬ ((22 : Nat) = 18) by decide, show ¬ ((23 : Nat) = 18) by decide, show ¬ ((1019 : Nat) = 1018) by decide, show ¬ ((1021 : Nat) = 1018) by decide, show ¬ ((1022 : Nat) = 1018) by decide]
          exact ⟨⟨a1, a2, a5, a6, a7⟩, D2, D3, D4, D5, c0, e0, D6, D7, D8, D9⟩
        · exact ⟨fun _ _ => rfl, fun f k h => by rw [sI_upD, sI_upI, if_neg (by omega)], fun f k h => by rw [sD_upD, if_neg (by omega)]; rfl, fun f k h => by rw [sI_upD, sI_upI, if_neg (by omega)], fun f k h => by rw [sD_upD, if_neg (by omega)]; rfl⟩
      · by_cases h2 : (Op.cmpValue (FP.dcmp (FP.i2d (nI now)) (sD σ 19 j)) .l) < 0
        · refine ⟨0, σ, τ, fun K hK => ⟨hj, fun q => absurd q h1, fun _ => ⟨fun _ => ⟨fun _ => ⟨fun _ => hK, fun q => absurd h2 q⟩, fun q => absurd q h18⟩, fun q => absurd e1 q⟩⟩, fun K hK => ?_, D, frD.rf⟩
          unfold wp_X9_isHit
          rw [hc, hw, ← a1, ← a4, hnow, ← a3]
          exact ⟨hin, fun q => absurd q h1, fun _ => ⟨hin, fun _ => ⟨hin, fun _ => ⟨hin, fun _ => hK, fun q => absurd h2 q⟩, fun q => absurd q h18⟩, fun q => absurd q hq⟩⟩
        · refine ⟨1, σ, τ, fun K hK => ⟨hj, fun q => absurd q h1, fun _ => ⟨fun _ => ⟨fun _ => ⟨fun q => absurd q h2, fun _ => hK⟩, fun q => absurd q h18⟩, fun q => absurd e1 q⟩⟩, fun K hK => ?_, D, frD.rf⟩
          unfold wp_X9_isHit
          rw [hc, hw, ← a1, ← a4, hnow, ← a3]
          exact ⟨hin, fun q => absurd q h1, fun _ => ⟨hin, fun _ => ⟨hin, fun _ => ⟨hin, fun q => absurd q h2, fun _ => hK⟩, fun q => absurd q h18⟩, fun q => absurd q hq⟩⟩
    · have e2 : ¬ em = 0 := by rw [e1]; decide
      refine ⟨0, upI σ 18 j 0, upI τ 1018 j 0, fun K hK => ⟨hj, fun q => absurd q h1, fun _ => ⟨fun q => absurd q e2, fun _ s5 e5 => (by subst e5; exact hK)⟩⟩, fun K hK => ?_, hoff, hofr⟩
      unfold wp_X9_isHit
      rw [hc, hw, ← a1]
      refine ⟨hin, fun q => absurd q h1, fun _ => ⟨hin, fun q => absurd hq q, fun _ => ?_⟩⟩
      unfold wp_X9_isHit_J38
      rw [hc]
      exact ⟨hin, fun s34 e34 => by subst e34; exact hK⟩
