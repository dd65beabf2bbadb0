/-- the end of a look, both sides: a queue that is empty now leaves the round -/
theorem fin_ok {n now b p : Nat} {σ τ : ST} {qs : Nat → List Nat} {t : List Nat} (hb6 : b < 6) (hQ : SQ n σ τ qs) (hW : SW σ qs) (hS : SS now σ τ) (hC : SC σ τ) (hK : SK σ τ) (hF : SF σ τ (b :: t)) (hB : SB σ τ) (hR : RC σ (b :: t)) (hM : MR τ (b :: t)) (hRQ : ∀ j, j < 6 → j ≠ b → (j ∈ b :: t ↔ qs j ≠ [])) (hL : SL n σ τ qs (some p)) (hRF : RF n σ) (hCV : CV 600 σ τ) (hDV : ∀ j, j < 6 → DV (n - tot (fun j => (qs j).length)) σ τ j) (hMV : ∀ j, j < 6 → j ≠ b → MV now σ τ j) (hMb : qs b ≠ [] → MV now σ τ b) (hMe : qs b = [] → MV now (upI σ 54 b (nI now)) τ b) (hn : n ≤ 512) :
    ∃ (σ' τ' : ST) (rd : List Nat), (∀ K : ST → Prop, K σ' → ((¬ (sI σ 98 b) = 0 → K σ) ∧ ((sI σ 98 b) = 0 → (wp_X7_leave n σ (fun s12 => b < 6 ∧ ∀ s14, s14 = upI s12 54 b (sI s12 132 0) → K s14))))) ∧ (∀ K : ST → Prop, K τ' → ((¬ (sI τ 1023 b) = 0 → K τ) ∧ ((sI τ 1023 b) = 0 → wp_X9_leaveRound τ (fun s7 => K s7)))) ∧ Sim n now qs rd (some p) σ' τ' ∧ (∀ f k, 80 ≤ f ∧ f ≤ 86 → sI σ' f k = sI σ f k) ∧ (∀ k, sR σ' 81 k = sR σ 81 k) ∧ (∀ f, 1038 ≤ f ∧ f ≤ 1042 → sI τ' f 0 = sI τ f 0) ∧ mu σ' qs ≤ mu σ qs + 1500 ∧ sD σ' 138 0 = sD σ 138 0 ∧ sI τ' 1000 0 = sI τ 1000 0 := by
  have hl := hW.len b hb6
  have h98 : sI σ 98 b = nI (qs b).length := (hQ b hb6).2.2.2.2.2.1
  have h1023 : sI τ 1023 b = nI (qs b).length := (hQ b hb6).2.2.2.2.2.2.2.1
  by_cases he : qs b = []
  · have z98 : sI σ 98 b = 0 := by rw [h98, he]; rfl
    have z1023 : sI τ 1023 b = 0 := by rw [h1023, he]; rfl
    have h6 := len6 hR.2.2.2.1 hR.2.2.2.2.1
    have hbt : b ∉ t := (List.nodup_cons.mp hR.2.2.2.1).1
    obtain ⟨s1, k1, r1, r2, r3, r4, r5, r6⟩ := leaveT (n := n) hR
    obtain ⟨τ', m1, m2, m3, m4, m5⟩ := leaveR hM (by simp at h6; omega)
    obtain ⟨σ', eσ⟩ : ∃ z, z = upI s1 54 b (nI now) := ⟨_, rfl⟩
    have hI : ∀ f k, f ≠ 114 → ¬ (f = 38 ∧ k = b) → ¬ (f = 54 ∧ k = b) → sI σ' f k = sI σ f k := fun f k w1 w2 w3 => by
      rw [eσ, sI_upI, if_neg w3]; exact r5 f k w1 w2
    have hD : ∀ f k, sD σ' f k = sD σ f k := fun f k => by rw [eσ]; exact r6 f k
    have hRr : ∀ f k, f ≠ 112 → f ≠ 113 → f ≠ 39 → sR σ' f k = sR σ f k := fun f k w1 w2 w3 => by rw [eσ]; exact r2 f k w1 w2 w3
    have g38 : sI σ' 38 b = 0 := by rw [eσ, sI_upI, if_neg (by omega)]; exact r4
    have g114 : sI σ' 114 0 = 0 := by rw [eσ, sI_upI, if_neg (by omega)]; exact r3
    refine ⟨σ', τ', t, fun K hKK => ⟨fun w => absurd z98 w, fun _ => k1 _ ⟨hb6, fun s14 e14 => ?_⟩⟩, fun K hKK => ⟨fun w => absurd z1023 w, fun _ => m1 _ hKK⟩, ⟨?_, ?_, ?_, ?_, ?_, ?_, ?_, ?_, m2, ?_, ?_, ?_, ?_, ?_, ?_, hn⟩, fun f k hf => hI f k (by omega) (by omega) (by omega), fun k => hRr 81 k (by omega) (by omega) (by omega), fun f hf => m4 f 0 (by omega) (by omega) (by omega), ?_, hD 138 0, m4 1000 0 (by omega) (by omega) (by omega)⟩
    · rw [r5 132 0 (by omega) (by omega), hS.1] at e14
      rw [e14, ← eσ]; exact hKK
    · exact hQ.congr hW.len (fun f k hf => hRr f k (by omega) (by omega) (by omega)) (fun q _ => hRr 87 q (by omega) (by omega) (by omega)) (fun f q hf _ => hI f q (by omega) (by omega) (by omega)) (fun f j hf => hI f j (by omega) (by omega) (by omega)) (fun k => m4 1023 k (by omega) (by omega) (by omega)) (fun f k hf => m4 f k (by omega) (by omega) (by omega))
    · exact hW.congr (fun f hf => hI f 0 (by omega) (by omega) (by omega)) (fun q _ => hI 82 q (by omega) (by omega) (by omega))
    · exact hS.congr (fun f hf => hI f 0 (by omega) (by omega) (by omega)) (fun f _ => hD f 0) (fun f hf => m4 f 0 (by omega) (by omega) (by omega)) (fun f _ => m5 f 0)
    · exact fun j hj => (hC j hj).congr (fun f hf => hI f j (by omega) (by omega) (by omega)) (fun k _ => m4 _ _ (by omega) (by omega) (by omega))
    · exact hK.congr (fun f j hf => hI f j (by omega) (by omega) (by omega)) (fun f j hf => m4 f j (by omega) (by omega) (by omega))
    · intro j hj
      by_cases e : j = b
      · subst e
        exact ⟨fun w => absurd w hbt, fun _ => g38, 0, g38, by omega, Or.inl (by omega)⟩
      · obtain ⟨w1, w2, d', w3, w4, w5⟩ := hF j hj
        have e1 : sI σ' 38 j = sI σ 38 j := hI 38 j (by omega) (by omega) (by omega)
        have e2 : sI τ' 1032 j = sI τ 1032 j := m4 1032 j (by omega) (by omega) (by omega)
        refine ⟨fun w => by rw [e1, e2]; exact w1 (List.mem_cons_of_mem _ w), fun w => by rw [e1]; exact w2 (fun q => by
          rcases List.mem_cons.mp q with q | q
          · exact e q
          · exact w q), d', by rw [e1]; exact w3, w4, Or.inl ?_⟩
        rcases w5 with w | w
        · exact w
        · exact absurd (Option.some.inj w.1).symm e
    · exact ⟨by rw [g114, m3], by rw [g114]; exact isB0⟩
    · exact r1.congr (by rw [eσ]; rfl) (by rw [eσ]; rfl) (fun i => by rw [eσ]; rfl)
    · intro j hj
      by_cases e : j = b
      · subst e
        exact ⟨fun w => absurd w hbt, fun w => absurd he w⟩
      · rw [← hRQ j hj e]
        exact ⟨fun w => List.mem_cons_of_mem _ w, fun w => by
          rcases List.mem_cons.mp w with w | w
          · exact absurd w e
          · exact w⟩
    · exact hL.congr (hI 65 0 (by omega) (by omega) (by omega)) (m4 1036 0 (by omega) (by omega) (by omega)) (fun k => m4 1037 k (by omega) (by omega) (by omega)) (fun k => hRr 64 k (by omega) (by omega) (by omega)) (fun k => hRr 81 k (by omega) (by omega) (by omega)) (fun f q hf _ _ => hI f q (by omega) (by omega) (by omega)) (fun _ w => w) (Nat.le_refl _)
    · exact ⟨fun k q hk => hRF.1 k q (by rw [← hRr 64 k (by omega) (by omega) (by omega)]; exact hk), fun k q hk => hRF.2 k q (by rw [← hRr 87 k (by omega) (by omega) (by omega)]; exact hk)⟩
    · exact hCV.congr (hI 1 0 (by omega) (by omega) (by omega)) (hI 2 0 (by omega) (by omega) (by omega)) (fun k => hD 0 k) (m4 1034 0 (by omega) (by omega) (by omega)) (fun k => m5 1035 k)
    · exact fun j hj => (hDV j hj).congr (fun f hf => hI f j (by omega) (by omega) (by omega)) (fun f _ => hD f j) (fun f hf => m4 f j (by omega) (by omega) (by omega)) (fun f _ => m5 f j)
    · intro j hj
      by_cases e : j = b
      · subst e
        exact (hMe he).congr (fun f hf => by
          rcases hf with rfl | rfl
          · rw [hI 53 j (by omega) (by omega) (by omega), sI_upI, if_neg (by omega)]
          · rw [eσ, sI_upI, if_pos ⟨rfl, rfl⟩, sI_upI, if_pos ⟨rfl, rfl⟩]) (fun f _ => hD f j) (fun f hf => m4 f j (by omega) (by omega) (by omega)) (fun f _ => m5 f j)
      · exact (hMV j hj e).congr (fun f hf => hI f j (by omega) (by omega) (by omega)) (fun f _ => hD f j) (fun f hf => m4 f j (by omega) (by omega) (by omega)) (fun f _ => m5 f j)
    · have hdv : dv σ' b = 0 := by unfold dv; rw [g38]; decide
      have ht := tot_up (f := fun j => 1500 - dv σ j) (g := fun j => 1500 - dv σ' j) hb6 (fun j hj => by
        have : dv σ' j = dv σ j := by unfold dv; rw [hI 38 j (by omega) (by omega) (by omega)]
        rw [this])
      simp only [hdv] at ht
      have z1 : (sI σ' 114 0).toNatClampNeg = 0 := by rw [g114]; decide
      unfold mu
      rw [z1]
      omega
  · have hpos : 0 < (qs b).length := List.length_pos_iff.mpr he
    have z98 : ¬ sI σ 98 b = 0 := by rw [h98]; exact nI_ne0 hpos (by omega)
    have z1023 : ¬ sI τ 1023 b = 0 := by rw [h1023]; exact nI_ne0 hpos (by omega)
    refine ⟨σ, τ, b :: t, fun K hKK => ⟨fun _ => hKK, fun w => absurd w z98⟩, fun K hKK => ⟨fun _ => hKK, fun w => absurd w z1023⟩, ⟨hQ, hW, hS, hC, hK, hF, hB, hR, hM, ?_, hL, hRF, hCV, hDV, ?_, hn⟩, fun _ _ _ => rfl, fun _ => rfl, fun _ _ => rfl, by omega, rfl, rfl⟩
    · intro j hj
      by_cases e : j = b
      · subst e; exact ⟨fun _ => he, fun _ => by simp⟩
      · exact hRQ j hj e
    · intro j hj
      by_cases e : j = b
      · subst e; exact hMb he
      · exact hMV j hj e
/-- a taken packet, both sides -/
def FL (n now : Nat) (σ τ : ST) (b p : Nat) : Prop := b < 6 ∧ okP n σ b p ∧ sI σ 86 p = nI now - sI σ 83 p ∧ sI τ 1038 0 = sI σ 80 p ∧ sI τ 1039 0 = sI σ 82 p ∧ sI τ 1040 0 = sI σ 83 p ∧ sI τ 1042 0 = sI σ 85 p
/-- a look that passes the turn on, both sides -/
theorem pass_ok {n now b : Nat} {σ τ : ST} {qs : Nat → List Nat} {t : List Nat} (h : Sim n now qs (b :: t) none σ τ) (hg : sI σ 114 0 = 1) (hd : dv σ b < 1500) :
    ∃ σ' τ', (∀ K : ST → Prop, K σ' → wp_X7_passOn n σ K) ∧ (∀ K : ST → Prop, K τ' → wp_X9_leaveRound τ (fun s20 => vp_in (sI s20 1030 0) 6 ∧ ∀ s22, s22 = upI s20 1031 (sI s20 1030 0).toNatClampNeg (nI b) → ∀ s23, s23 = upI s22 1030 0 ((sI s22 1030 0) + 1) → K s23)) ∧ Sim n now qs (t ++ [b]) none σ' τ' ∧ mu σ' qs < mu σ qs ∧ sD σ' 138 0 = sD σ 138 0 ∧ sI τ' 1000 0 = sI τ 1000 0 := by
  obtain ⟨hQ, hW, hS, hC, hK, hF, hB, hR, hM, hRQ, hL, hRF, hCV, hDV, hMV, hn⟩ := h
  have hb6 := hR.2.2.2.2.1 b (by simp)
  have h6 := len6 hR.2.2.2.1 hR.2.2.2.2.1
  have ht5 : t.length ≤ 5 := by simp at h6; omega
  obtain ⟨σ', k1, r1, r2, r3, r4, r5⟩ := passT (n := n) hR
  obtain ⟨z, m1, m2, m3, m4, m5⟩ := leaveR hM ht5
  have z30 : sI z 1030 0 = nI t.length := m2.1
  obtain ⟨τ', eτ⟩ : ∃ w, w = upI (upI z 1031 t.length (nI b)) 1030 0 (nI (t.length + 1)) := ⟨_, rfl⟩
  have hT : ∀ f k, f ≠ 1030 → f ≠ 1031 → f ≠ 1033 → sI τ' f k = sI τ f k := fun f k w1 w2 w3 => by
    rw [eτ]; simp only [sI_upI]; rw [if_neg (fun w => w1 w.1), if_neg (fun w => w2 w.1)]; exact m4 f k w1 w2 w3
  have hTD : ∀ f k, sD τ' f k = sD τ f k := fun f k => by rw [eτ]; exact m5 f k
  have t33 : sI τ' 1033 0 = 0 := by rw [eτ]; simp only [sI_upI]; rw [if_neg (by omega), if_neg (by omega)]; exact m3
  have hmem : ∀ j, j ∈ t ++ [b] ↔ j ∈ b :: t := fun j => by simp [or_comm]
  refine ⟨σ', τ', k1, fun K hKK => m1 _ ⟨?_, fun s22 e22 s23 e23 => ?_⟩, ⟨?_, ?_, ?_, ?_, ?_, ?_, ?_, r1, ?_, ?_, ?_, ?_, ?_, ?_, ?_, hn⟩, ?_, r5 138 0, hT 1000 0 (by omega) (by omega) (by omega)⟩
  · rw [z30]; exact vp_in_nI (by omega) (by decide)
  · rw [z30, nI_clamp (by omega)] at e22
    rw [e22, sI_upI, if_neg (by omega), z30, nI_1] at e23
    rw [e23, ← eτ]; exact hKK
  · exact hQ.congr hW.len (fun f k hf => r2 f k (by omega) (by omega) (by omega)) (fun q _ => r2 87 q (by omega) (by omega) (by omega)) (fun f q hf _ => r4 f q (by omega)) (fun f j hf => r4 f j (by omega)) (fun k => hT 1023 k (by omega) (by omega) (by omega)) (fun f k hf => hT f k (by omega) (by omega) (by omega))
  · exact hW.congr (fun f hf => r4 f 0 (by omega)) (fun q _ => r4 82 q (by omega))
  · exact hS.congr (fun f hf => r4 f 0 (by omega)) (fun f _ => r5 f 0) (fun f hf => hT f 0 (by omega) (by omega) (by omega)) (fun f _ => hTD f 0)
  · exact fun j hj => (hC j hj).congr (fun f hf => r4 f j (by omega)) (fun k _ => hT _ _ (by omega) (by omega) (by omega))
  · exact hK.congr (fun f j hf => r4 f j (by omega)) (fun f j hf => hT f j (by omega) (by omega) (by omega))
  · intro j hj
    obtain ⟨w1, w2, d', w3, w4, w5⟩ := hF j hj
    have e1 : sI σ' 38 j = sI σ 38 j := r4 38 j (by omega)
    have e2 : sI τ' 1032 j = sI τ 1032 j := hT 1032 j (by omega) (by omega) (by omega)
    refine ⟨fun w => by rw [e1, e2]; exact w1 ((hmem j).mp w), fun w => by rw [e1]; exact w2 (fun q => w ((hmem j).mpr q)), d', by rw [e1]; exact w3, w4, Or.inl ?_⟩
    rcases w5 with w | w
    · exact w
    · have e : b = j := Option.some.inj w.1
      subst e
      unfold dv at hd
      rw [w3, nI_clamp (by omega)] at hd
      exact hd
  · exact ⟨by rw [r3, t33], by rw [r3]; exact isB0⟩
  · refine ⟨?_, fun k i hk => ?_⟩
    · rw [eτ, sI_upI, if_pos ⟨rfl, rfl⟩]; simp
    · rw [eτ, sI_upI, if_neg (by omega), sI_upI]
      by_cases e : k = t.length
      · subst e
        rw [if_pos ⟨rfl, rfl⟩]
        simp at hk
        rw [hk]
      · rw [if_neg (fun w => e w.2)]
        have hlt : k < t.length := by
          have := (List.getElem?_eq_some_iff.mp hk).1
          simp at this
          omega
        rw [List.getElem?_append_left hlt] at hk
        exact m2.2 k i hk
  · intro j hj
    rw [hmem j]
    exact hRQ j hj
  · exact hL.congr (r4 65 0 (by omega)) (hT 1036 0 (by omega) (by omega) (by omega)) (fun k => hT 1037 k (by omega) (by omega) (by omega)) (fun k => r2 64 k (by omega) (by omega) (by omega)) (fun k => r2 81 k (by omega) (by omega) (by omega)) (fun f q hf _ _ => r4 f q (by omega)) (fun _ w => w) (Nat.le_refl _)
  · exact ⟨fun k q hk => hRF.1 k q (by rw [← r2 64 k (by omega) (by omega) (by omega)]; exact hk), fun k q hk => hRF.2 k q (by rw [← r2 87 k (by omega) (by omega) (by omega)]; exact hk)⟩
  · exact hCV.congr (r4 1 0 (by omega)) (r4 2 0 (by omega)) (fun k => r5 0 k) (hT 1034 0 (by omega) (by omega) (by omega)) (fun k => hTD 1035 k)
  · exact fun j hj => (hDV j hj).congr (fun f hf => r4 f j (by omega)) (fun f _ => r5 f j) (fun f hf => hT f j (by omega) (by omega) (by omega)) (fun f _ => hTD f j)
  · exact fun j hj => (hMV j hj).congr (fun f hf => r4 f j (by omega)) (fun f _ => r5 f j) (fun f hf => hT f j (by omega) (by omega) (by omega)) (fun f _ => hTD f j)
  · have z1 : (sI σ' 114 0).toNatClampNeg = 0 := by rw [r3]; decide
    have z2 : (sI σ 114 0).toNatClampNeg = 1 := by rw [hg]; decide
    have z3 : (tot fun j => 1500 - dv σ' j) = tot fun j => 1500 - dv σ j := tot_congr (fun j _ => by unfold dv; rw [r4 38 j (by omega)])
    unfold mu
    rw [z1, z2, z3]
    omega
