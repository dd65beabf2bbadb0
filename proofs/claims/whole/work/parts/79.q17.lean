theorem tick_sim {n now : Nat} {qs : Nat → List Nat} {rd : List Nat} {σ τ : ST} (h : Sim n now qs rd none σ τ) (hn1 : now + 1 ≤ 512000) : Sim n (now + 1) qs rd none (upI σ 132 0 (nI (now + 1))) (upI τ 1001 0 (nI (now + 1))) := by
  obtain ⟨hQ, hW, hS, hC, hK, hF, hB, hR, hM, hRQ, hL, hRF, hCV, hDV, hMV, hn⟩ := h
  have hI : ∀ f k, f ≠ 132 → sI (upI σ 132 0 (nI (now + 1))) f k = sI σ f k := fun f k g => by rw [sI_upI, if_neg (fun w => g w.1)]
  have hT : ∀ f k, f ≠ 1001 → sI (upI τ 1001 0 (nI (now + 1))) f k = sI τ f k := fun f k g => by rw [sI_upI, if_neg (fun w => g w.1)]
  refine ⟨hQ.congr hW.len (fun _ _ _ => rfl) (fun _ _ => rfl) (fun f p hf _ => hI f p (by omega)) (fun f j hf => hI f j (by omega)) (fun k => hT 1023 k (by omega)) (fun f k hf => hT f k (by omega)), hW.congr (fun f hf => hI f 0 (by omega)) (fun p _ => hI 82 p (by omega)), ?_, fun j hj => (hC j hj).congr (fun f hf => hI f j (by omega)) (fun k _ => hT _ _ (by omega)), hK.congr (fun f j hf => hI f j (by omega)) (fun f j hf => hT f j (by omega)), ?_, ?_, hR.congr rfl rfl (fun _ => rfl), hM.congr (hT 1030 0 (by omega)) (fun k => hT 1031 k (by omega)), hRQ, hL.congr (hI 65 0 (by omega)) (hT 1036 0 (by omega)) (fun k => hT 1037 k (by omega)) (fun _ => rfl) (fun _ => rfl) (fun f p hf _ _ => hI f p (by omega)) (fun _ w => w) (Nat.le_refl _), hRF, hCV.congr (hI 1 0 (by omega)) (hI 2 0 (by omega)) (fun _ => rfl) (hT 1034 0 (by omega)) (fun _ => rfl), fun j hj => (hDV j hj).congr (fun f hf => hI f j (by omega)) (fun _ _ => rfl) (fun f hf => hT f j (by omega)) (fun _ _ => rfl), fun j hj => MV.mono ((hMV j hj).congr (fun f hf => hI f j (by omega)) (fun _ _ => rfl) (fun f hf => hT f j (by omega)) (fun _ _ => rfl)) (Nat.le_succ now), hn⟩
  · obtain ⟨u1, u2, u3, u4, u5, u6, u7, u8, u9, u10, u11⟩ := hS
    unfold SS
    rw [hI 133 0 (by omega), hI 136 0 (by omega), hT 1002 0 (by omega), hT 1004 0 (by omega)]
    exact ⟨sI_s _ _ _ _, sI_s _ _ _ _, hn1, u4, u5, u6, u7, u8, u9, u10, u11⟩
  · intro j hj
    unfold SF1
    rw [hI 38 j (by omega), hI 114 0 (by omega), hT 1032 j (by omega)]
    exact hF j hj
  · unfold SB
    rw [hI 114 0 (by omega), hT 1033 0 (by omega)]
    exact hB
theorem tick_loop {n A : Nat} (hA : A ≤ 1000) : ∀ (d x now : Nat) (x2 : Int32) (qs : Nat → List Nat) (rd : List Nat) (σ τ : ST), x + d = A → now + d ≤ 512000 → Sim n now qs rd none σ τ →
    ∃ (v : Int32) (σ' τ' : ST) (qs' : Nat → List Nat) (rd' : List Nat), (∀ (K : Int32 → ST → Prop) (KX : String → ST → Prop), K v σ' → wp_X8_tick_L26 n (nI A) K KX (d + 1) σ (nI x) x2) ∧ (∀ K : Int32 → ST → Prop, K v τ' → wp_X9_tick_L29 (nI A) K (d + 1) τ (nI x) x2) ∧ Sim n (now + d) qs' rd' none σ' τ' ∧ sI τ' 1000 0 = sI τ 1000 0 := by
  intro d
  induction d with
  | zero =>
    intro x now x2 qs rd σ τ hx hn hSim
    have e : x = A := by omega
    subst e
    have hle : nI x ≤ nI x := nI_le (Nat.le_refl x) (by omega)
    exact ⟨x2, σ, τ, qs, rd, fun K KX hK => ⟨fun _ => hK, fun w => absurd hle w⟩, fun K hK => ⟨fun _ => hK, fun w => absurd hle w⟩, hSim, rfl⟩
  | succ d ih =>
    intro x now x2 qs rd σ τ hx hn hSim
    have hlt : ¬ nI A ≤ nI x := nI_ge (by omega) (by omega)
    have hS1 := tick_sim hSim (by omega)
    obtain ⟨k, σ2, τ2, qs2, rd2, ⟨fc, kc⟩, ⟨fm, km⟩, hS2, hth2⟩ := gone_loop 100 0 x2 qs rd _ _ hS1.2.1.2.1 (by omega) hS1
    obtain ⟨v, σ', τ', qs', rd', wc, wm, hS3, hth3⟩ := ih (x + 1) (now + 1) (x2 + nI k) qs2 rd2 σ2 τ2 (by omega) (by omega) hS2
    refine ⟨v, σ', τ', qs', rd', fun K KX hK => ⟨fun w => absurd w hlt, fun _ => ?_⟩, fun K hK => ⟨fun w => absurd w hlt, fun _ s5 e5 => ?_⟩, ?_, (hth3.trans hth2).trans (by rw [sI_upI, if_neg (by omega)])⟩
    · unfold wp_X8_oneTick
      intro s1 e1
      rw [hSim.2.2.1.1, nI_1] at e1
      subst e1
      refine ⟨fc, kc _ ?_⟩
      rw [nI_1, Nat.zero_add]
      exact wc K KX hK
    · rw [hSim.2.2.1.2.1, nI_1] at e5
      subst e5
      have hq := km (nI A) (nI x) K (wp_X9_tick_L29 (nI A) K (d + 1)) (by rw [nI_1]; exact wm K hK)
      exact ⟨fun w => ⟨fm, hq.1 w⟩, fun w => ⟨fm, hq.2 w⟩⟩
    · rw [show now + (d + 1) = now + 1 + d by omega]; exact hS3
