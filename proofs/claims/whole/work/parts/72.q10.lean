/-- the model's look, from its taking out on -/
def cM (z0 : ST) (K : Int32 → ST → Prop) (J0 : ST → Prop) (s4 : ST) : Prop := vp_in (sI z0 1031 (0 : Int32).toNatClampNeg) 6 ∧
  ((¬ (sI s4 1006 (sI z0 1031 (0 : Int32).toNatClampNeg).toNatClampNeg) = 2 → (wp_X9_choose_J117 z0 K (J0) (wp_X9_choose_J118 z0 K (J0)) s4)) ∧ ((sI s4 1006 (sI z0 1031 (0 : Int32).toNatClampNeg).toNatClampNeg) = 2 → (wp_X9_isHit s4 (sI z0 1031 (0 : Int32).toNatClampNeg) (fun r19 s18 =>
((r19 = 0 → (wp_X9_choose_J117 z0 K (J0) (wp_X9_choose_J118 z0 K (J0)) s18)) ∧ (¬ (r19 = 0) → (wp_X9_choose_J118 z0 K (J0) s18 1)))
))))
/-- a taken packet's way out, both sides: r is 0 if it is dropped -/
theorem out_ok {n m b p now l : Nat} {σ τ : ST} (hb : b < 6) (D : DV m σ τ b) (hnow : sI τ 1001 0 = nI now) (hn : now ≤ 512000) (hm : m + 1 ≤ 1000) (hp : okP n σ b p) (h86 : sI σ 86 p = nI now - sI σ 83 p) (t40 : sI τ 1040 0 = sI σ 83 p) (t41 : sI τ 1041 0 = sI σ 84 p) (t42 : sI τ 1042 0 = sI σ 85 p) (h98 : sI σ 98 b = nI l) (h1023 : sI τ 1023 b = nI l) (hl : l ≤ 100) (hk : sI σ 36 b = sI τ 1006 b) :
    ∃ (r : Int32) (σ' τ' : ST), (∀ K : Int32 → ST → Prop, K r σ' → wp_X2_letsOut n σ b p (nI now) K) ∧ (∀ (z0 : ST) (K : Int32 → ST → Prop) (J0 : ST → Prop), sI z0 1031 (0 : Int32).toNatClampNeg = nI b → wp_X9_choose_J206 (if r = 0 then 1 else 0) z0 K J0 τ' → cM z0 K J0 τ) ∧ (r = 0 ∨ r = 1) ∧ DV (m + 1) σ' τ' b ∧
      (r = 0 → sI τ' 1032 b = sI τ 1032 b ∧ sI τ' 1029 (10 * b + 4) = sI τ 1029 (10 * b + 4) + 1) ∧ (r = 1 → sI τ' 1032 b = sI τ 1032 b - sI τ 1039 0 ∧ sI τ' 1029 (10 * b + 4) = sI τ 1029 (10 * b + 4) ∧ sI τ' 1042 0 = sI σ' 85 p) ∧ isB (sI σ' 85 p) ∧
      ((sI σ' 46 b = sI σ 46 b ∧ sI τ' 1029 (10 * b + 5) = sI τ 1029 (10 * b + 5)) ∨ (sI σ' 46 b = sI σ 46 b + 1 ∧ sI τ' 1029 (10 * b + 5) = sI τ 1029 (10 * b + 5) + 1)) ∧
      (∀ f k, sR σ' f k = sR σ f k) ∧ (∀ f k, ¬ ((f = 18 ∨ f = 20 ∨ f = 22 ∨ f = 23 ∨ f = 46) ∧ k = b) → ¬ (f = 85 ∧ k = p) → sI σ' f k = sI σ f k) ∧ (∀ f k, ¬ ((f = 19 ∨ f = 21) ∧ k = b) → sD σ' f k = sD σ f k) ∧
      (∀ f k, ¬ ((f = 1018 ∨ f = 1019 ∨ f = 1021 ∨ f = 1022 ∨ f = 1032) ∧ k = b) → ¬ (f = 1029 ∧ (k = 10 * b + 4 ∨ k = 10 * b + 5)) → f ≠ 1042 → sI τ' f k = sI τ f k) ∧ (∀ f k, ¬ ((f = 1017 ∨ f = 1020) ∧ k = b) → sD τ' f k = sD τ f k) := by
  have hin : vp_in (nI b) 6 := vp_in_nI hb (by decide)
  have hc : (nI b).toNatClampNeg = b := nI_clamp (by omega)
  have e5 : (10 : Int32) * nI b + 5 = nI (10 * b + 5) := by rw [show (10 : Int32) = nI 10 from rfl, show (5 : Int32) = nI 5 from rfl, pk_mul, nI_add]
  have e4 : (10 : Int32) * nI b + 4 = nI (10 * b + 4) := by rw [show (10 : Int32) = nI 10 from rfl, show (4 : Int32) = nI 4 from rfl, pk_mul, nI_add]
  have i5 : vp_in (nI (10 * b + 5)) 60 := vp_in_nI (by omega) (by decide)
  have i4 : vp_in (nI (10 * b + 4)) 60 := vp_in_nI (by omega) (by decide)
  have c5 : (nI (10 * b + 5)).toNatClampNeg = 10 * b + 5 := nI_clamp (by omega)
  have c4 : (nI (10 * b + 4)).toNatClampNeg = 10 * b + 4 := nI_clamp (by omega)
  have hz1 : ¬ (1 : Int32) = 0 := by decide
  -- the packet passes unhit
  have pass0 : ∀ (σ2 τ2 : ST), DV (m + 1) σ2 τ2 b → frD b σ σ2 τ τ2 →
      (∀ K : Int32 → ST → Prop, K 1 σ2 → wp_X2_letsOut n σ b p (nI now) K) → (∀ (z0 : ST) (K : Int32 → ST → Prop) (J0 : ST → Prop), sI z0 1031 (0 : Int32).toNatClampNeg = nI b → wp_X9_choose_J118 z0 K J0 τ2 0 → cM z0 K J0 τ) →
      ∃ (σ' τ' : ST), (∀ K : Int32 → ST → Prop, K 1 σ' → wp_X2_letsOut n σ b p (nI now) K) ∧ (∀ (z0 : ST) (K : Int32 → ST → Prop) (J0 : ST → Prop), sI z0 1031 (0 : Int32).toNatClampNeg = nI b → wp_X9_choose_J206 0 z0 K J0 τ' → cM z0 K J0 τ) ∧ DV (m + 1) σ' τ' b ∧ (sI τ' 1032 b = sI τ 1032 b - sI τ 1039 0 ∧ sI τ' 1029 (10 * b + 4) = sI τ 1029 (10 * b + 4) ∧ sI τ' 1042 0 = sI σ' 85 p) ∧ isB (sI σ' 85 p) ∧ (sI σ' 46 b = sI σ 46 b ∧ sI τ' 1029 (10 * b + 5) = sI τ 1029 (10 * b + 5)) ∧
        (∀ f k, sR σ' f k = sR σ f k) ∧ (∀ f k, ¬ ((f = 18 ∨ f = 20 ∨ f = 22 ∨ f = 23 ∨ f = 46) ∧ k = b) → ¬ (f = 85 ∧ k = p) → sI σ' f k = sI σ f k) ∧ (∀ f k, ¬ ((f = 19 ∨ f = 21) ∧ k = b) → sD σ' f k = sD σ f k) ∧
        (∀ f k, ¬ ((f = 1018 ∨ f = 1019 ∨ f = 1021 ∨ f = 1022 ∨ f = 1032) ∧ k = b) → ¬ (f = 1029 ∧ (k = 10 * b + 4 ∨ k = 10 * b + 5)) → f ≠ 1042 → sI τ' f k = sI τ f k) ∧ (∀ f k, ¬ ((f = 1017 ∨ f = 1020) ∧ k = b) → sD τ' f k = sD τ f k) := by
    intro σ2 τ2 D2 fr kc km
    obtain ⟨f1, f2, f3, f4, f5⟩ := fr
    refine ⟨σ2, upI τ2 1032 b (sI τ2 1032 b - sI τ2 1039 0), kc, fun z0 K J0 hz hK => km z0 K J0 hz ?_, D2.congr (fun _ _ => rfl) (fun _ _ => rfl) (fun f h => by rw [sI_upI, if_neg (by omega)]) (fun _ _ => rfl), ⟨?_, ?_, ?_⟩, ?_, ⟨?_, ?_⟩, f1, fun f k g1 g2 => f2 f k (by omega), f3, fun f k g1 g2 g3 => ?_, fun f k g => f5 f k g⟩
    · unfold wp_X9_choose_J118
      refine ⟨fun _ => ?_, fun q => absurd rfl q⟩
      unfold wp_X9_choose_J134 wp_X9_choose_J135
      rw [hz, hc]
      refine ⟨fun _ => ⟨hin, hin, fun s10 e10 => ⟨fun _ => ?_, fun q => absurd rfl q⟩⟩, fun q => absurd rfl q⟩
      subst e10; exact hK
    · rw [sI_upI, if_pos ⟨rfl, rfl⟩, f4 1032 b (by omega), f4 1039 0 (by omega)]
    · rw [sI_upI, if_neg (by omega)]; exact f4 _ _ (by omega)
    · rw [sI_upI, if_neg (by omega), f4 1042 0 (by omega), f2 85 p (by omega)]; exact t42
    · rw [f2 85 p (by omega)]; exact hp.2.2.2.2
    · exact f2 46 b (by omega)
    · rw [sI_upI, if_neg (by omega)]; exact f4 _ _ (by omega)
    · rw [sI_upI, if_neg (by omega)]; exact f4 f k (by omega)
  by_cases hk2 : sI σ 36 b = 2
  · have hk2m : sI τ 1006 b = 2 := by rw [← hk]; exact hk2
    have hw : sI τ 1001 0 - sI τ 1040 0 = sI σ 86 p := by rw [h86, hnow, t40]
    obtain ⟨em, hem, hcl⟩ : ∃ em : Int32, ((em = 0 ∧ ¬ sI τ 1023 b = 0) ∨ (em = 1 ∧ sI τ 1023 b = 0)) ∧ (∀ K : Int32 → ST → Prop, wp_X1_hits n σ b (sI σ 86 p) (nI now) em (fun r5 s4 => ((r5 = 0 → (K 1 s4)) ∧ (¬ (r5 = 0) → (wp_X2_takesMark n s4 b p (fun r8 s7 => ((r8 = 0 → (K 0 s7)) ∧ (¬ (r8 = 0) → (K 1 s7))))))) ) → wp_X2_letsOut n σ b p (nI now) K) := by
      by_cases h0 : sI σ 98 b = 0
      · refine ⟨1, Or.inr ⟨rfl, by rw [h1023, ← h98]; exact h0⟩, fun K hK => ?_⟩
        unfold wp_X2_letsOut
        exact ⟨hb, fun _ => ⟨hp.1, hb, fun q => absurd h0 q, fun _ => ⟨hb, hK⟩⟩, fun q => absurd hk2 q⟩
      · refine ⟨0, Or.inl ⟨rfl, by rw [h1023, ← h98]; exact h0⟩, fun K hK => ?_⟩
        unfold wp_X2_letsOut
        exact ⟨hb, fun _ => ⟨hp.1, hb, fun _ => ⟨hb, hK⟩, fun q => absurd q h0⟩, fun q => absurd hk2 q⟩
    obtain ⟨r, σ2, τ2, k1, k2, hr, D2, fr⟩ := hits_ok (n := n) hb D hnow hn hw hem hm
    obtain ⟨f1, f2, f3, f4, f5⟩ := id fr
    have hmod : ∀ (z0 : ST) (K : Int32 → ST → Prop) (J0 : ST → Prop), sI z0 1031 (0 : Int32).toNatClampNeg = nI b → ((r = 0 → (wp_X9_choose_J117 z0 K (J0) (wp_X9_choose_J118 z0 K (J0)) τ2)) ∧ (¬ (r = 0) → (wp_X9_choose_J118 z0 K (J0) τ2 1))) → cM z0 K J0 τ := by
      intro z0 K J0 hz hK
      unfold cM
      rw [hz, hc]
      exact ⟨hin, fun q => absurd hk2m q, fun _ => k2 _ hK⟩
    rcases hr with hr | hr
    · subst hr
      obtain ⟨σ', τ', w1, w2, w3, w4, w5, w6, w7, w8, w9, w10, w11⟩ := pass0 σ2 τ2 D2 fr (fun K hK => hcl K (k1 _ ⟨fun _ => hK, fun q => absurd rfl q⟩)) (fun z0 K J0 hz hK => hmod z0 K J0 hz ⟨fun _ => hK, fun q => absurd rfl q⟩)
      exact ⟨1, σ', τ', w1, w2, Or.inr rfl, w3, fun q => absurd q hz1, fun _ => w4, w5, Or.inl w6, w7, w8, w9, w10, w11⟩
    · subst hr
      have e84 : sI σ2 84 p = sI σ 84 p := f2 84 p (by omega)
      have e85 : sI σ2 85 p = sI σ 85 p := f2 85 p (by omega)
      have e41 : sI τ2 1041 0 = sI σ 84 p := by rw [f4 1041 0 (by omega)]; exact t41
      have e42 : sI τ2 1042 0 = sI σ 85 p := by rw [f4 1042 0 (by omega)]; exact t42
      by_cases h84 : sI σ 84 p = 0
      · -- dropped
        refine ⟨0, σ2, upI τ2 1029 (10 * b + 4) (sI τ2 1029 (10 * b + 4) + 1), fun K hK => hcl K (k1 _ ⟨fun q => absurd q hz1, fun _ => ?_⟩), fun z0 K J0 hz hK => hmod z0 K J0 hz ⟨fun q => absurd q hz1, fun _ => ?_⟩, Or.inl rfl, D2.congr (fun _ _ => rfl) (fun _ _ => rfl) (fun f h => by rw [sI_upI, if_neg (by omega)]) (fun _ _ => rfl), fun _ => ⟨?_, ?_⟩, fun q => absurd q.symm hz1, ?_, Or.inl ⟨?_, ?_⟩, f1, fun f k g1 g2 => f2 f k (by omega), f3, fun f k g1 g2 g3 => ?_, fun f k g => f5 f k g⟩
        · unfold wp_X2_takesMark
          rw [e84]
          exact ⟨hp.1, fun _ => ⟨hp.2.2.2.1, fun _ => hK, fun q => absurd h84 q⟩, fun q => absurd h84 q⟩
        · unfold wp_X9_choose_J118
          refine ⟨fun q => absurd q hz1, fun _ => ⟨fun q => absurd h84 (by rw [← e41]; exact q), fun _ => ?_⟩⟩
          unfold wp_X9_choose_J135
          rw [hz, e4, c4]
          refine ⟨fun q => absurd q hz1, fun _ => ⟨i4, i4, fun s17 e17 => ?_⟩⟩
          subst e17
          exact hK
        · rw [sI_upI, if_neg (by omega)]; exact f4 _ _ (by omega)
        · rw [sI_upI, if_pos ⟨rfl, rfl⟩, f4 _ _ (by omega)]
        · rw [e85]; exact hp.2.2.2.2
        · exact f2 46 b (by omega)
        · rw [sI_upI, if_neg (by omega)]; exact f4 _ _ (by omega)
        · rw [sI_upI, if_neg (by omega)]; exact f4 f k (by omega)
      · by_cases h85 : sI σ 85 p = 0
        · -- marked now
          refine ⟨1, upI (upI σ2 85 p 1) 46 b (sI σ 46 b + 1), upI (upI (upI τ2 1032 b (sI τ 1032 b - sI τ 1039 0)) 1029 (10 * b + 5) (sI τ 1029 (10 * b + 5) + 1)) 1042 0 1, fun K hK => hcl K (k1 _ ⟨fun q => absurd q hz1, fun _ => ?_⟩), fun z0 K J0 hz hK => hmod z0 K J0 hz ⟨fun q => absurd q hz1, fun _ => ?_⟩, Or.inr rfl, D2.congr (fun f h => by simp only [sI_upI]; rw [if_neg (by omega), if_neg (by omega)]) (fun _ _ => rfl) (fun f h => by simp only [sI_upI]; rw [if_neg (by omega), if_neg (by omega), if_neg (by omega)]) (fun _ _ => rfl), fun q => absurd q hz1, fun _ => ⟨?_, ?_, ?_⟩, ?_, Or.inr ⟨?_, ?_⟩, f1, fun f k g1 g2 => ?_, f3, fun f k g1 g2 g3 => ?_, fun f k g => f5 f k g⟩
          · unfold wp_X2_takesMark
            rw [e84, e85]
            refine ⟨hp.1, fun q => absurd q h84, fun _ => ⟨fun q => absurd h85 q, fun _ s4 es4 => ⟨hb, fun s6 es6 => ?_⟩⟩⟩
            have g84 : sI s6 84 p = sI σ 84 p := by rw [es6, es4, sI_upI, if_neg (by omega), sI_upI, if_neg (by omega)]; exact e84
            rw [g84]
            refine ⟨hp.2.2.2.1, fun q => absurd q h84, fun _ => ?_⟩
            have : s6 = upI (upI σ2 85 p 1) 46 b (sI σ 46 b + 1) := by rw [es6, es4, sI_upI, if_neg (by omega), f2 46 b (by omega)]
            rw [this]; exact hK
          · unfold wp_X9_choose_J118
            refine ⟨fun q => absurd q hz1, fun _ => ⟨fun _ => ?_, fun q => absurd (by rw [← e41]; exact q) h84⟩⟩
            unfold wp_X9_choose_J134 wp_X9_choose_J135
            rw [hz, hc, e5, c5]
            refine ⟨fun _ => ⟨hin, hin, fun s10 e10 => ⟨fun q => absurd q hz1, fun _ => ?_⟩⟩, fun q => absurd rfl q⟩
            have g42 : sI s10 1042 0 = 0 := by rw [e10, sI_upI, if_neg (by omega), e42]; exact h85
            refine ⟨fun q => absurd g42 q, fun _ => ⟨i5, i5, fun s13 e13 s14 e14 => ?_⟩⟩
            have : s14 = upI (upI (upI τ2 1032 b (sI τ 1032 b - sI τ 1039 0)) 1029 (10 * b + 5) (sI τ 1029 (10 * b + 5) + 1)) 1042 0 1 := by rw [e14, e13, e10, sI_upI, if_neg (by omega), f4 1032 b (by omega), f4 1039 0 (by omega), f4 1029 _ (by omega)]
            rw [this]; exact hK
          · simp only [sI_upI]; rw [if_neg (by omega), if_neg (by omega), if_pos (by simp)]
          · simp only [sI_upI]; rw [if_neg (by omega), if_neg (by omega), if_neg (by omega)]; exact f4 _ _ (by omega)
          · simp only [sI_upI]; rw [if_pos (by simp), if_neg (by omega), if_pos (by simp)]
          · simp only [sI_upI]; rw [if_neg (by omega), if_pos (by simp)]; exact isB1
          · simp only [sI_upI]; rw [if_pos (by simp)]
          · simp only [sI_upI]; rw [if_neg (by omega), if_pos (by simp)]
          · simp only [sI_upI]; rw [if_neg (by omega), if_neg (by omega)]; exact f2 f k (by omega)
          · simp only [sI_upI]; rw [if_neg (by omega), if_neg (by omega), if_neg (by omega)]; exact f4 f k (by omega)
        · -- marked before
          refine ⟨1, σ2, upI τ2 1032 b (sI τ 1032 b - sI τ 1039 0), fun K hK => hcl K (k1 _ ⟨fun q => absurd q hz1, fun _ => ?_⟩), fun z0 K J0 hz hK => hmod z0 K J0 hz ⟨fun q => absurd q hz1, fun _ => ?_⟩, Or.inr rfl, D2.congr (fun _ _ => rfl) (fun _ _ => rfl) (fun f h => by rw [sI_upI, if_neg (by omega)]) (fun _ _ => rfl), fun q => absurd q hz1, fun _ => ⟨?_, ?_, ?_⟩, ?_, Or.inl ⟨?_, ?_⟩, f1, fun f k g1 g2 => f2 f k (by omega), f3, fun f k g1 g2 g3 => ?_, fun f k g => f5 f k g⟩
          · unfold wp_X2_takesMark
            rw [e84, e85]
            refine ⟨hp.1, fun q => absurd q h84, fun _ => ⟨fun _ => ⟨hp.2.2.2.1, fun q => absurd q h84, fun _ => hK⟩, fun q => absurd q h85⟩⟩
          · unfold wp_X9_choose_J118
            refine ⟨fun q => absurd q hz1, fun _ => ⟨fun _ => ?_, fun q => absurd (by rw [← e41]; exact q) h84⟩⟩
            unfold wp_X9_choose_J134 wp_X9_choose_J135
            rw [hz, hc]
            refine ⟨fun _ => ⟨hin, hin, fun s10 e10 => ⟨fun q => absurd q hz1, fun _ => ?_⟩⟩, fun q => absurd rfl q⟩
            have es : s10 = upI τ2 1032 b (sI τ 1032 b - sI τ 1039 0) := by rw [e10, f4 1032 b (by omega), f4 1039 0 (by omega)]
            have g42 : ¬ sI s10 1042 0 = 0 := by rw [e10, sI_upI, if_neg (by omega), e42]; exact h85
            exact ⟨fun _ => by rw [es]; exact hK, fun q => absurd q g42⟩
          · rw [sI_upI, if_pos ⟨rfl, rfl⟩]
          · rw [sI_upI, if_neg (by omega)]; exact f4 _ _ (by omega)
          · rw [sI_upI, if_neg (by omega), e42, e85]
          · rw [e85]; exact hp.2.2.2.2
          · exact f2 46 b (by omega)
          · rw [sI_upI, if_neg (by omega)]; exact f4 _ _ (by omega)
          · rw [sI_upI, if_neg (by omega)]; exact f4 f k (by omega)
  · have hk2m : ¬ sI τ 1006 b = 2 := by rw [← hk]; exact hk2
    obtain ⟨σ', τ', w1, w2, w3, w4, w5, w6, w7, w8, w9, w10, w11⟩ := pass0 σ τ (DV.mono D (Nat.le_succ m)) frD.rf (fun K hK => ⟨hb, fun q => absurd q hk2, fun _ => hK⟩) (fun z0 K J0 hz hK => by
      unfold cM
      rw [hz, hc]
      exact ⟨hin, fun _ => hK, fun q => absurd q hk2m⟩)
    exact ⟨1, σ', τ', w1, w2, Or.inr rfl, w3, fun q => absurd q hz1, fun _ => w4, w5, Or.inl w6, w7, w8, w9, w10, w11⟩
