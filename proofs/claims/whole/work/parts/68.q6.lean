theorem div_root {a y : UInt64} (h : bd 1 80000 a) (hy : bd 4 16000 y) : bd 0 160000 (FP.ddiv a y) :=
  bd_div (h := 80000) (l' := 4) (h.weaken (by decide) (by decide)) (hy.fin (by decide) (by decide)) hy.2.1 (by decide) (by decide) (by decide) (by decide) (by decide)
/-- a packet's delay looked at, both sides -/
theorem hits_ok {n m j now : Nat} {σ τ : ST} {wt em : Int32} (hj : j < 6) (D : DV m σ τ j) (hnow : sI τ 1001 0 = nI now) (hn : now ≤ 512000) (hw : sI τ 1001 0 - sI τ 1040 0 = wt) (hem : (em = 0 ∧ ¬ sI τ 1023 j = 0) ∨ (em = 1 ∧ sI τ 1023 j = 0)) (hm : m + 1 ≤ 1000) :
    ∃ (r : Int32) (σ' τ' : ST), (∀ K : Int32 → ST → Prop, K r σ' → wp_X1_hits n σ j wt (nI now) em K) ∧ (∀ K : Int32 → ST → Prop, K r τ' → wp_X9_isHit τ (nI j) K) ∧ (r = 0 ∨ r = 1) ∧ DV (m + 1) σ' τ' j ∧ frD j σ σ' τ τ' := by
  have hin : vp_in (nI j) 6 := vp_in_nI hj (by decide)
  have hc : (nI j).toNatClampNeg = j := nI_clamp (by omega)
  obtain ⟨lt, σ1, τ1, k1, k2, D1, fr1⟩ := late_ok (n := n) hj D hnow hn hw hem
  obtain ⟨⟨a1, a2, a3, a4, a5, a6, a7⟩, D2, D3, D4, D5, c, e, D6, D7, D8, D9⟩ := id D1
  have hb := now_bd hn
  by_cases hl : lt = 0
  · -- not late
    by_cases h20 : sI τ1 1019 j = 0
    · refine ⟨0, upI σ1 20 j 0, τ1, fun K hK => ⟨hj, k1 _ ⟨fun q => absurd hl q, fun _ s16 e16 => (by subst e16; exact hK)⟩⟩, fun K hK => k2 K ?_, Or.inl rfl, ?_, fr1.trans ⟨fun _ _ => rfl, fun f k h => by rw [sI_upI, if_neg (by omega)], fun _ _ _ => rfl, fun _ _ _ => rfl, fun _ _ _ => rfl⟩⟩
      · unfold wp_X9_isHit_J99
        rw [hc]
        exact ⟨hin, fun _ => ⟨fun q => absurd hl q, fun _ => hK⟩, fun q => absurd h20 q⟩
      · refine DV.mono (m := m) (DV.congr D1 (fun f h => ?_) (fun _ _ => rfl) (fun _ _ => rfl) (fun _ _ => rfl)) (Nat.le_succ m)
        rw [sI_upI]
        split
        · rename_i q; rw [q.1, a5, h20]
        · rfl
    · refine ⟨0, upI σ1 20 j 0, upI τ1 1019 j 0, fun K hK => ⟨hj, k1 _ ⟨fun q => absurd hl q, fun _ s16 e16 => (by subst e16; exact hK)⟩⟩, fun K hK => k2 K ?_, Or.inl rfl, ?_, fr1.trans ⟨fun _ _ => rfl, fun f k h => by rw [sI_upI, if_neg (by omega)], fun _ _ _ => rfl, fun f k h => by rw [sI_upI, if_neg (by omega)], fun _ _ _ => rfl⟩⟩
      · unfold wp_X9_isHit_J99
        rw [hc]
        exact ⟨hin, fun q => absurd q h20, fun _ => ⟨fun q => absurd hl q, fun _ => ⟨hin, fun s32 e32 => by subst e32; exact hK⟩⟩⟩
      · unfold DV
        simp only [sI_upI, sD_upI]
        simp only [true_and, if_true, show ¬ ((18 : Nat) = 20) by decide, show ¬ ((22 : Nat) = 20) by decide, show ¬ ((23 : Nat) = 20) by decide, show ¬ ((1018 : Nat) = 1019) by decide, show ¬ ((1021 : Nat) = 1019) by decide, show ¬ ((1022 : Nat) = 1019) by decide, false_and, if_false]
        refine ⟨⟨a1, a2, a3, a4, a6, a7⟩, ?_, D3, D4, D5, c, e, D6, D7, by omega, by omega⟩
        rcases D2 with q | q
        · exact Or.inl q
        · exact Or.inr ⟨q.2.1, q.2.2⟩
  · by_cases h20 : sI τ1 1019 j = 0
    · -- the beginning
      have h20c : sI σ1 20 j = 0 := by rw [a5]; exact h20
      -- the count to begin with
      have hcnt : ∃ k : Nat, 1 ≤ k ∧ k ≤ m + 1 ∧ (∀ K : Int32 → ST → Prop, K (nI k) (upI σ1 20 j 1) → wp_X1_countToBeginWith n (upI σ1 20 j 1) j (nI now) K) ∧ (∀ K : Int32 → ST → Prop, wp_X9_isHit_J244 (nI j) τ K (upI τ1 1019 j 1) (nI k) → wp_X9_isHit_J99 (nI j) τ K τ1 lt) := by
        have g1 : sI (upI σ1 20 j 1) 22 j = nI c := by rw [sI_upI, if_neg (by omega)]; exact D6
        have g2 : sI (upI σ1 20 j 1) 23 j = nI e := by rw [sI_upI, if_neg (by omega)]; exact D7
        have g3 : sI (upI τ1 1019 j 1) 1021 j = nI c := by rw [sI_upI, if_neg (by omega), ← a6]; exact D6
        have g4 : sI (upI τ1 1019 j 1) 1022 j = nI e := by rw [sI_upI, if_neg (by omega), ← a7]; exact D7
        by_cases hd : nI c - nI e ≤ 1
        · refine ⟨1, by omega, by omega, fun K hK => ?_, fun K hK => ?_⟩
          · unfold wp_X1_countToBeginWith
            rw [g1, g2]
            exact ⟨hj, fun _ => hK, fun q => absurd hd q⟩
          · unfold wp_X9_isHit_J99
            rw [hc]
            refine ⟨hin, fun _ => ⟨fun _ => ⟨hin, fun s4 e4 => ⟨hin, hin, ?_⟩⟩, fun q => absurd q hl⟩, fun q => absurd h20 q⟩
            subst e4
            rw [g3, g4]
            exact ⟨fun _ => hK, fun q => absurd hd q⟩
        · have hec : e ≤ c := by
            refine Nat.not_lt.mp fun q => hd ?_
            have h9 : nI c - nI e < 0 := pk_sneg (by omega) q
            rw [Int32.lt_iff_toInt_lt] at h9
            rw [Int32.le_iff_toInt_le]
            have z0 : (0 : Int32).toInt = 0 := rfl
            have z1 : (1 : Int32).toInt = 1 := rfl
            omega
          have hsub : nI c - nI e = nI (c - e) := pk_sub hec
          have hpos : 1 ≤ c - e := by
            rw [hsub] at hd
            refine Nat.pos_of_ne_zero fun q => hd ?_
            rw [q]; decide
          have hne : sD σ1 21 j = sD τ1 1020 j := by
            rcases D2 with q | q
            · exact q
            · exfalso
              have h0 : nI c = 0 := by rw [← D6]; exact q.2.1
              have h1 : c = 0 := (nI_eq (b := 0) (by omega) (by decide)).mp h0
              omega
          have s1 := bd_sub hb D5 (by decide) (by decide) (by decide) (by decide) (by decide) (by decide)
          have s2 : bd 0 1280000 (FP.dmul 4625196817309499392 (sD σ1 17 j)) := bd_mul (h := 128) (h' := 80000) (bd_16.weaken (by decide) (by decide)) (D4.weaken (by decide) (by decide)) (by decide) (by decide) (by decide) (by decide)
          by_cases hcm : 0 ≤ (Op.cmpValue (FP.dcmp (FP.dsub (FP.i2d (nI now)) (sD σ1 21 j)) (FP.dmul 4625196817309499392 (sD σ1 17 j))) .g)
          · refine ⟨1, by omega, by omega, fun K hK => ?_, fun K hK => ?_⟩
            · unfold wp_X1_countToBeginWith
              rw [g1, g2]
              exact ⟨hj, fun q => absurd q hd, fun _ => ⟨s1.n64, s2.n64, fun _ => hK, fun q => absurd hcm q⟩⟩
            · unfold wp_X9_isHit_J99
              rw [hc]
              refine ⟨hin, fun _ => ⟨fun _ => ⟨hin, fun s4 e4 => ⟨hin, hin, ?_⟩⟩, fun q => absurd q hl⟩, fun q => absurd h20 q⟩
              subst e4
              rw [g3, g4, hnow]
              simp only [sD_upI]
              rw [← hne, ← a2]
              exact ⟨fun q => absurd q hd, fun _ => ⟨hin, s1.n64, hin, s2.n64, fun _ => hK, fun q => absurd hcm q⟩⟩
          · refine ⟨c - e, hpos, by omega, fun K hK => ?_, fun K hK => ?_⟩
            · unfold wp_X1_countToBeginWith
              rw [g1, g2]
              refine ⟨hj, fun q => absurd q hd, fun _ => ⟨s1.n64, s2.n64, fun q => absurd q hcm, fun _ => ?_⟩⟩
              rw [hsub]; exact hK
            · unfold wp_X9_isHit_J99
              rw [hc]
              refine ⟨hin, fun _ => ⟨fun _ => ⟨hin, fun s4 e4 => ⟨hin, hin, ?_⟩⟩, fun q => absurd q hl⟩, fun q => absurd h20 q⟩
              subst e4
              rw [g3, g4, hnow]
              simp only [sD_upI]
              rw [← hne, ← a2]
              refine ⟨fun q => absurd q hd, fun _ => ⟨hin, s1.n64, hin, s2.n64, fun q => absurd q hcm, fun _ => ?_⟩⟩
              rw [hsub]; exact hK
      obtain ⟨k, hk1, hk2, kc, km⟩ := hcnt
      obtain ⟨y, hy, r1, r2⟩ := root_ok hk1 (show k ≤ 1000 by omega)
      have q1 := div_root D4 hy
      have q2 := bd_add hb q1 (by decide) (by decide) (by decide) (by decide) (by decide) (by decide)
      obtain ⟨x, ex⟩ : ∃ x, x = FP.dadd (FP.i2d (nI now)) (FP.ddiv (sD σ1 17 j) y) := ⟨_, rfl⟩
      refine ⟨1, upD (upI (upI (upI σ1 20 j 1) 22 j (nI k)) 23 j (nI k)) 21 j x, upD (upI (upI (upI τ1 1019 j 1) 1021 j (nI k)) 1022 j (nI k)) 1020 j x, fun K hK => ⟨hj, k1 _ ⟨fun _ => ⟨fun q => absurd h20c q, fun _ s8 e8 => ?_⟩, fun q => absurd q hl⟩⟩, fun K hK => k2 K (km K ?_), Or.inr rfl, ?_, fr1.trans ?_⟩
      · subst e8
        refine kc _ fun s11 e11 s12 e12 => ?_
        have e22 : sI s11 22 j = nI k := by rw [e11, sI_upI, if_pos ⟨rfl, rfl⟩]
        have e222 : sI s12 22 j = nI k := by rw [e12, sI_upI, if_neg (by omega)]; exact e22
        rw [e222]
        have e17 : sD s12 17 j = sD σ1 17 j := by rw [e12, e11]; rfl
        refine r1 n s12 _ ⟨?_, ?_, fun s15 e15 => ?_⟩
        · rw [e17]; exact q1.n64
        · rw [e17]; exact q2.n64
        · rw [e17, ← ex] at e15
          have : s15 = upD (upI (upI (upI σ1 20 j 1) 22 j (nI k)) 23 j (nI k)) 21 j x := by rw [e15, e12, e22, e11]
          rw [this]; exact hK
      · unfold wp_X9_isHit_J244
        rw [hc, hnow]
        refine ⟨hin, fun s8 e8 => ⟨hin, hin, fun s11 e11 => ⟨hin, hin, ?_⟩⟩⟩
        have e22 : sI s8 1021 j = nI k := by rw [e8, sI_upI, if_pos ⟨rfl, rfl⟩]
        have e222 : sI s11 1021 j = nI k := by rw [e11, sI_upI, if_neg (by omega)]; exact e22
        have e17 : sD s11 1016 j = sD σ1 17 j := by rw [e11, e8, a2]; rfl
        rw [e222]
        refine r2 s11 _ ⟨?_, ?_, hin, fun s17 es => ?_⟩
        · rw [e17]; exact q1.n64
        · rw [e17]; exact q2.n64
        · rw [e17, ← ex] at es
          have : s17 = upD (upI (upI (upI τ1 1019 j 1) 1021 j (nI k)) 1022 j (nI k)) 1020 j x := by rw [es, e11, e22, e8]
          rw [this]; exact hK
      · unfold DV
        simp only [sI_upI, sD_upI, sI_upD, sD_upD]
        simp only [true_and, and_true, if_true, false_and, if_false, show ¬ ((16 : Nat) = 21) by decide, show ¬ ((17 : Nat) = 21) by decide, show ¬ ((19 : Nat) = 21) by decide, show ¬ ((1015 : Nat) = 1020) by decide, show ¬ ((1016 : Nat) = 1020) by decide, show ¬ ((1017 : Nat) = 1020) by decide, show ¬ ((18 : Nat) = 23) by decide, show ¬ ((18 : Nat) = 22) by decide, show ¬ ((18 : Nat) = 20) by decide, show ¬ ((20 : Nat) = 23) by decide, show ¬ ((20 : Nat) = 22) by decide, show ¬ ((22 : Nat) = 23) by decide, show ¬ ((1018 : Nat) = 1022) by decide, show ¬ ((1018 : Nat) = 1021) by decide, show ¬ ((1018 : Nat) = 1019) by decide, show ¬ ((1019 : Nat) = 1022) by decide, show ¬ ((1019 : Nat) = 1021) by decide, show ¬ ((1021 : Nat) = 1022) by decide, true_or]
        exact ⟨⟨a1, a2, a3, a4⟩, D3, D4, by rw [ex]; exact q2.weaken (by decide) (by decide), k, k, rfl, rfl, hk2, hk2⟩
      · exact ⟨fun _ _ => rfl, fun f k h => by simp only [sI_upD, sI_upI]; rw [if_neg (by omega), if_neg (by omega), if_neg (by omega)], fun f k h => by simp only [sD_upD, sD_upI]; rw [if_neg (by omega)], fun f k h => by simp only [sI_upD, sI_upI]; rw [if_neg (by omega), if_neg (by omega), if_neg (by omega)], fun f k h => by simp only [sD_upD, sD_upI]; rw [if_neg (by omega)]⟩
    · have h20c : ¬ sI σ1 20 j = 0 := by rw [a5]; exact h20
      have hne : sD σ1 21 j = sD τ1 1020 j := by
        rcases D2 with q | q
        · exact q
        · exact absurd q.1 h20c
      by_cases hcm : 0 ≤ (Op.cmpValue (FP.dcmp (FP.i2d (nI now)) (sD σ1 21 j)) .g)
      · -- one more
        have hle : ZF (sD σ1 21 j) ≤ ZF (FP.i2d (nI now)) := (c_ge hb.1 D5.1).mp hcm
        have hnx : bd 0 4096000 (sD σ1 21 j) := ⟨D5.1, D5.2.1, Int.le_trans hle hb.2.2⟩
        obtain ⟨y, hy, r1, r2⟩ := root_ok (show 1 ≤ c + 1 by omega) (show c + 1 ≤ 1000 by omega)
        have q1 := div_root D4 hy
        have q2 := bd_add hnx q1 (by decide) (by decide) (by decide) (by decide) (by decide) (by decide)
        obtain ⟨x, ex⟩ : ∃ x, x = FP.dadd (sD σ1 21 j) (FP.ddiv (sD σ1 17 j) y) := ⟨_, rfl⟩
        refine ⟨1, upD (upI σ1 22 j (nI (c + 1))) 21 j x, upD (upI τ1 1021 j (nI (c + 1))) 1020 j x, fun K hK => ⟨hj, k1 _ ⟨fun _ => ⟨fun _ => ⟨fun _ s4 e4 => ?_, fun q => absurd hcm q⟩, fun q => absurd q h20c⟩, fun q => absurd q hl⟩⟩, fun K hK => k2 K ?_, Or.inr rfl, ?_, fr1.trans ?_⟩
        · rw [D6, nI_1] at e4
          have e22 : sI s4 22 j = nI (c + 1) := by rw [e4, sI_upI, if_pos ⟨rfl, rfl⟩]
          have e17 : sD s4 17 j = sD σ1 17 j := by rw [e4]; rfl
          have e21 : sD s4 21 j = sD σ1 21 j := by rw [e4]; rfl
          rw [e22]
          refine r1 n s4 _ ⟨?_, ?_, fun s7 e7 => ?_⟩
          · rw [e17]; exact q1.n64
          · rw [e17, e21]; exact q2.n64
          · rw [e17, e21, ← ex, e4] at e7
            rw [e7]; exact hK
        · unfold wp_X9_isHit_J99
          rw [hc, hnow, ← hne, ← a6, D6, nI_1]
          refine ⟨hin, fun q => absurd q h20, fun _ => ⟨fun _ => ⟨hin, fun _ => ⟨hin, hin, fun s23 e23 => ⟨hin, hin, hin, ?_⟩⟩, fun q => absurd hcm q⟩, fun q => absurd q hl⟩⟩
          have e22 : sI s23 1021 j = nI (c + 1) := by rw [e23, sI_upI, if_pos ⟨rfl, rfl⟩]
          have e17 : sD s23 1016 j = sD σ1 17 j := by rw [e23, a2]; rfl
          have e21 : sD s23 1020 j = sD σ1 21 j := by rw [e23, hne]; rfl
          rw [e22]
          refine r2 s23 _ ⟨?_, ?_, hin, fun s30 e30 => ?_⟩
          · rw [e17]; exact q1.n64
          · rw [e17, e21]; exact q2.n64
          · rw [e17, e21, ← ex, e23] at e30
            rw [e30]; exact hK
        · unfold DV
          simp only [sI_upI, sD_upI, sI_upD, sD_upD]
          simp only [true_and, and_true, if_true, false_and, if_false, show ¬ ((16 : Nat) = 21) by decide, show ¬ ((17 : Nat) = 21) by decide, show ¬ ((19 : Nat) = 21) by decide, show ¬ ((1015 : Nat) = 1020) by decide, show ¬ ((1016 : Nat) = 1020) by decide, show ¬ ((1017 : Nat) = 1020) by decide, show ¬ ((18 : Nat) = 22) by decide, show ¬ ((20 : Nat) = 22) by decide, show ¬ ((23 : Nat) = 22) by decide, show ¬ ((1018 : Nat) = 1021) by decide, show ¬ ((1019 : Nat) = 1021) by decide, show ¬ ((1022 : Nat) = 1021) by decide, true_or]
          exact ⟨⟨a1, a2, a3, a4, a5, a7⟩, D3, D4, by rw [ex]; exact q2.weaken (by decide) (by decide), c + 1, e, rfl, D7, by omega, by omega⟩
        · exact ⟨fun _ _ => rfl, fun f k h => by simp only [sI_upD, sI_upI]; rw [if_neg (by omega)], fun f k h => by simp only [sD_upD, sD_upI]; rw [if_neg (by omega)], fun f k h => by simp only [sI_upD, sI_upI]; rw [if_neg (by omega)], fun f k h => by simp only [sD_upD, sD_upI]; rw [if_neg (by omega)]⟩
      · refine ⟨0, σ1, τ1, fun K hK => ⟨hj, k1 _ ⟨fun _ => ⟨fun _ => ⟨fun q => absurd q hcm, fun _ => hK⟩, fun q => absurd q h20c⟩, fun q => absurd q hl⟩⟩, fun K hK => k2 K ?_, Or.inl rfl, D1.mono (Nat.le_succ m), fr1⟩
        unfold wp_X9_isHit_J99
        rw [hc, hnow, ← hne]
        exact ⟨hin, fun q => absurd q h20, fun _ => ⟨fun _ => ⟨hin, fun q => absurd q hcm, fun _ => hK⟩, fun q => absurd q hl⟩⟩
