/-- a packet at the end of its queue, both sides: the class is in the round already -/
theorem put_core {n now b p bp : Nat} {a3 y0 : Int32} {σ τ s3 : ST} {qs : Nat → List Nat} {rd : List Nat} (hb : b < 6) (hQ : SQ n σ τ qs) (hW : SW σ qs) (h99 : (tot fun j => (qs j).length) < 100) (hS : SS now σ τ) (hC : SC σ τ) (hK : SK σ τ) (hF : SF σ τ rd) (hB : SB σ τ) (hR : RC σ rd) (hM : MR τ rd) (hRQ : ∀ j, j < 6 → (j ∈ rd ↔ qset qs b (qs b ++ [p]) j ≠ [])) (hL : SL n σ τ qs (some p)) (hRF : RF n σ) (hCV : CV 600 σ τ) (hDV : DVs (n - ((tot fun j => (qs j).length) + 1)) σ τ) (hMV : ∀ j, j < 6 → MV now σ τ j) (hn : n ≤ 512) (hp : okP n σ b p) (hpl : ¬ live qs p) (h87 : sR σ 87 p = none) (h80 : sI σ 80 p = sI s3 1002 0) (h82 : sI σ 82 p = nI bp) (hbp : bp ≤ 1500) (h83 : sI σ 83 p = nI now) (h84 : sI σ 84 p = a3) (h85 : (y0 = 2 ∧ sI σ 85 p = 1) ∨ (¬ y0 = 2 ∧ sI σ 85 p = 0)) :
    ∃ σ' τ', (∀ K : ST → Prop, K σ' → wp_X6_add n σ b p (fun s9 => ∀ s11, s11 = upI s9 134 0 ((sI s9 134 0) + 1) → ∀ s12, s12 = upI s11 135 0 ((sI s11 135 0) + (sI s11 82 p)) → K s12)) ∧ (∀ (K : Int32 → ST → Prop) (J71 : ST → Int32 → Int32 → Prop) (G113 G167 : ST → Prop), K (sI s3 1002 0) τ' → wp_X9_come_J241 (nI b) (nI bp) a3 y0 s3 K J71 G113 G167 τ) ∧ Sim n now (qset qs b (qs b ++ [p])) rd none σ' τ' ∧ sI σ' 80 p = sI s3 1002 0 ∧ sI τ' 1000 0 = sI τ 1000 0 := by
  obtain ⟨a1, a2, a3', a4, a5, a6, a7, a8⟩ := hQ b hb
  obtain ⟨l, el⟩ : ∃ l, l = qs b := ⟨_, rfl⟩
  rw [← el] at a1 a2 a3' a4 a5 a6 a7 a8 hRQ ⊢
  have hlen : l.length ≤ 99 := by
    have := tot_le (f := fun j => (qs j).length) hb
    simp only [← el] at this
    omega
  have hpl2 : p ∉ l := fun w => hpl ⟨b, hb, by rw [← el]; exact w⟩
  obtain ⟨bb, b1, b2, b3, b4⟩ := byt_pos hp
  have ebp : bb = bp := by
    have w : nI bb = nI bp := by rw [← b3, h82]
    exact (nI_eq (by omega) (by omega)).mp w
  subst ebp
  obtain ⟨s1, k1, r1, r2, r3, r4, r5, r6, r7, r8, r9⟩ := addQ (n := n) hb hp.1 a1 a2 a3' a4 hpl2 h87 (fun q hq => (a5 q hq).1)
  have hT := tot_up (f := fun j => (qs j).length) (g := fun j => (qset qs b (l ++ [p]) j).length) hb (fun j hj => by rw [qset_n _ hj])
  have hTb := tot_up (f := fun j => byt σ (qs j)) (g := fun j => byt σ (qset qs b (l ++ [p]) j)) hb (fun j hj => by rw [qset_n _ hj])
  have hbyt : byt σ (l ++ [p]) = byt σ l + bb := by unfold byt; simp [b4]
  simp only [qset_s, ← el, List.length_append, List.length_singleton] at hT
  simp only [qset_s, ← el, hbyt] at hTb
  obtain ⟨W, eW⟩ : ∃ W, W = tot fun j => (qs j).length := ⟨_, rfl⟩
  obtain ⟨W', eW'⟩ : ∃ W, W = tot fun j => (qset qs b (l ++ [p]) j).length := ⟨_, rfl⟩
  obtain ⟨B, eB⟩ : ∃ W, W = tot fun j => byt σ (qs j) := ⟨_, rfl⟩
  obtain ⟨B', eB'⟩ : ∃ W, W = tot fun j => byt σ (qset qs b (l ++ [p]) j) := ⟨_, rfl⟩
  rw [← eW, ← eW'] at hT
  rw [← eB, ← eB'] at hTb
  rw [← eW] at h99 hDV
  have hWW : W' = W + 1 := by omega
  have hBB : B' = B + bb := by omega
  have e134 : sI σ 134 0 = nI W := by rw [eW]; exact hW.1
  have e135 : sI σ 135 0 = nI B := by rw [eB]; exact hW.2.2
  -- the class side
  obtain ⟨σ', eσ⟩ : ∃ z, z = upI (upI s1 134 0 (nI W')) 135 0 (nI B') := ⟨_, rfl⟩
  have hI : ∀ f k, f ≠ 98 → f ≠ 99 → f ≠ 134 → f ≠ 135 → sI σ' f k = sI σ f k := fun f k g1 g2 g3 g4 => by
    rw [eσ]
    simp only [sI_upI]
    rw [if_neg (by omega), if_neg (by omega)]
    exact r8 f k (by omega) (by omega)
  have hI2 : ∀ f k, f = 98 ∨ f = 99 → sI σ' f k = sI s1 f k := fun f k g => by
    rw [eσ]
    simp only [sI_upI]
    rw [if_neg (by omega), if_neg (by omega)]
  have hRr : ∀ f k, sR σ' f k = sR s1 f k := fun f k => by rw [eσ]; rfl
  have hD : ∀ f k, sD σ' f k = sD σ f k := fun f k => by rw [eσ]; exact r9 f k
  have hb82 : ∀ q : List Nat, byt σ' q = byt σ q := fun q => byt_congr (fun x _ => hI 82 x (by omega) (by omega) (by omega) (by omega))
  -- the model's side
  obtain ⟨y, ey⟩ : ∃ y, y = 100 * b + l.length := ⟨_, rfl⟩
  obtain ⟨τ', eτ⟩ : ∃ z, z = upI (upI (upI (upI (upI (upI τ 1023 b (nI (l.length + 1))) 1024 y (sI s3 1002 0)) 1025 y (nI bb)) 1026 y (nI now)) 1027 y a3) 1028 y (sI σ 85 p) := ⟨_, rfl⟩
  have hTt : ∀ f k, ¬ (f = 1023 ∧ k = b) → ¬ (inArr f ∧ k = y) → sI τ' f k = sI τ f k := fun f k g1 g2 => by
    rw [eτ]
    simp only [sI_upI]
    rw [if_neg (by omega), if_neg (by omega), if_neg (by omega), if_neg (by omega), if_neg (by omega), if_neg (by omega)]
  have hTD : ∀ f k, sD τ' f k = sD τ f k := fun f k => by rw [eτ]; rfl
  have t23 : sI τ' 1023 b = nI (l.length + 1) := by rw [eτ]; simp [sI_upI]
  have t24 : sI τ' 1024 y = sI σ 80 p := by rw [eτ, h80]; simp [sI_upI]
  have t25 : sI τ' 1025 y = sI σ 82 p := by rw [eτ, h82]; simp [sI_upI]
  have t26 : sI τ' 1026 y = sI σ 83 p := by rw [eτ, h83]; simp [sI_upI]
  have t27 : sI τ' 1027 y = sI σ 84 p := by rw [eτ, h84]; simp [sI_upI]
  have t28 : sI τ' 1028 y = sI σ 85 p := by rw [eτ]; simp [sI_upI]
  have hin : vp_in (nI b) 6 := vp_in_nI hb (by decide)
  have hc : (nI b).toNatClampNeg = b := nI_clamp (by omega)
  have iy : vp_in (nI y) 600 := vp_in_nI (by omega) (by decide)
  have cy : (nI y).toNatClampNeg = y := nI_clamp (by omega)
  have e100 : (100 : Int32) * nI b + nI l.length = nI y := by rw [show (100 : Int32) = nI 100 from rfl, pk_mul, nI_add, ey]
  have hB3 : isB a3 := by rw [← h84]; exact hp.2.2.2.1
  have hmem : ∀ q, live (qset qs b (l ++ [p])) q → live qs q ∨ q = p := fun q ⟨j, hj, hq⟩ => by
    by_cases e : j = b
    · rw [e, qset_s] at hq
      rcases List.mem_append.mp hq with hq | hq
      · exact Or.inl ⟨b, hb, by rw [← el]; exact hq⟩
      · exact Or.inr (by simpa using hq)
    · rw [qset_n _ e] at hq
      exact Or.inl ⟨j, hj, hq⟩
  refine ⟨σ', τ', fun K hKK => k1 _ (fun s11 e11 s12 e12 => ?_), fun K J71 G113 G167 hKK => ?_, ⟨fun j hj => ?_, ⟨?_, ?_, ?_⟩, ?_, ?_, ?_, ?_, ?_, ?_, ?_, hRQ, ?_, ?_, ?_, ?_, ?_, hn⟩, ?_, hTt 1000 0 (by omega) (by omega)⟩
  · have g1 : sI s1 134 0 + 1 = nI W' := by rw [r8 134 0 (by omega) (by omega), e134, nI_1, hWW]
    have g2 : sI s11 135 0 + sI s11 82 p = nI B' := by
      rw [e11, sI_upI, if_neg (by omega), sI_upI, if_neg (by omega), r8 135 0 (by omega) (by omega), r8 82 p (by omega) (by omega), e135, h82, nI_add, hBB]
    have : s12 = σ' := by rw [e12, g2, e11, g1, eσ]
    rw [this]; exact hKK
  · unfold wp_X9_come_J241
    rw [hc, a8.1, e100, cy, nI_1]
    have done : ∀ s30 v, s30 = upI (upI (upI (upI (upI τ 1023 b (nI (l.length + 1))) 1024 y (sI s3 1002 0)) 1025 y (nI bb)) 1026 y (nI now)) 1027 y a3 → v = sI σ 85 p → ∀ s, s = upI s30 1028 y v → K (sI s3 1002 0) s := fun s30 v w1 w2 s w3 => by
      have : s = τ' := by rw [w3, w2, w1, eτ]
      rw [this]; exact hKK
    refine ⟨hin, hin, hin, fun s22 e22 => ⟨iy, fun s24 e24 => ⟨iy, fun s26 e26 => ⟨iy, fun s28 e28 => ⟨iy, hB3, fun s30 e30 => ?_⟩⟩⟩⟩⟩
    have q01 : sI s26 1001 0 = nI now := by
      rw [e26, sI_upI, if_neg (by omega), e24, sI_upI, if_neg (by omega), e22, sI_upI, if_neg (by omega)]
      exact hS.2.1
    have e30' : s30 = upI (upI (upI (upI (upI τ 1023 b (nI (l.length + 1))) 1024 y (sI s3 1002 0)) 1025 y (nI bb)) 1026 y (nI now)) 1027 y a3 := by
      rw [e30, e28, q01, e26, e24, e22]
    rcases h85 with ⟨w1, w2⟩ | ⟨w1, w2⟩
    · exact ⟨fun w => absurd w1 w, fun _ => ⟨iy, fun s35 e35 => done s30 1 e30' w2.symm s35 e35⟩⟩
    · exact ⟨fun _ => ⟨iy, fun s33 e33 => done s30 0 e30' w2.symm s33 e33⟩, fun w => absurd w w1⟩
  · by_cases e : j = b
    · subst e
      rw [qset_s]
      refine ⟨by rw [hRr]; exact r1, by rw [hRr]; exact r2, chain_congr (fun q _ => hRr 87 q) r3, ?_, fun q hq => ?_, ?_, ?_, ?_, fun k q hk => ?_⟩
      · rw [List.nodup_append]
        exact ⟨a4, by simp, fun x hx z hz w => hpl2 (by simp at hz; rw [← hz, ← w]; exact hx)⟩
      · have hq2 : okP n σ j q := by
          rcases List.mem_append.mp hq with hq | hq
          · exact a5 q hq
          · have : q = p := by simpa using hq
            rw [this]; exact hp
        exact hq2.congr (by rw [hRr]; exact r5 81 q (by omega) (by omega) (by omega)) (fun f hf => hI f q (by omega) (by omega) (by omega) (by omega))
      · rw [hI2 98 j (by omega), r6, a6, nI_1]; simp
      · rw [hI2 99 j (by omega), r7, a7, h82, nI_add, hb82, hbyt]
      · rw [t23]; simp
      · have hk1 := (List.getElem?_eq_some_iff.mp hk).1
        simp at hk1
        have g8 : ∀ f, f = 80 ∨ f = 82 ∨ f = 83 ∨ f = 84 ∨ f = 85 → sI σ' f q = sI σ f q := fun f hf => hI f q (by omega) (by omega) (by omega) (by omega)
        rw [g8 80 (by omega), g8 82 (by omega), g8 83 (by omega), g8 84 (by omega), g8 85 (by omega)]
        by_cases e : k = l.length
        · subst e
          have hq : q = p := by
            rw [List.getElem?_append_right (Nat.le_refl _)] at hk
            simp at hk
            exact hk.symm
          rw [hq, ← ey]
          exact ⟨t24, t25, t26, t27, t28⟩
        · have hkl : k < l.length := by omega
          rw [List.getElem?_append_left hkl] at hk
          rw [hTt 1024 _ (by omega) (by omega), hTt 1025 _ (by omega) (by omega), hTt 1026 _ (by omega) (by omega), hTt 1027 _ (by omega) (by omega), hTt 1028 _ (by omega) (by omega)]
          exact a8.2 k q hk
    · rw [qset_n _ e]
      have hlj := hW.len j hj
      refine (hQ j hj).congr (by rw [hRr]; exact r5 96 j (by omega) (by omega) (by omega)) (by rw [hRr]; exact r5 97 j (by omega) (by omega) (by omega)) (fun q hq => by rw [hRr]; exact r4 q (fun w => e (hQ.apart hj hb hq (by rw [← el]; exact w)))) (fun q _ => by rw [hRr]; exact r5 81 q (by omega) (by omega) (by omega)) (fun f q hf _ => hI f q (by omega) (by omega) (by omega) (by omega)) (by rw [hI2 98 j (by omega)]; exact r8 98 j (by omega) (by omega)) (by rw [hI2 99 j (by omega)]; exact r8 99 j (by omega) (by omega)) (hTt 1023 j (by omega) (by omega)) (fun f k hf hk => hTt f _ (by omega) (by omega))
  · rw [← eW', eσ]
    simp only [sI_upI]
    rw [if_neg (by omega), if_pos (by simp)]
  · rw [← eW']; omega
  · have h135 : sI σ' 135 0 = nI B' := by rw [eσ, sI_upI, if_pos ⟨rfl, rfl⟩]
    rw [h135, eB']
    exact congrArg nI (tot_congr (fun j _ => (hb82 _).symm))
  · exact hS.congr (fun f hf => hI f 0 (by omega) (by omega) (by omega) (by omega)) (fun f _ => hD f 0) (fun f hf => hTt f 0 (by omega) (by omega)) (fun f _ => hTD f 0)
  · exact fun j hj => (hC j hj).congr (fun f hf => hI f j (by omega) (by omega) (by omega) (by omega)) (fun k _ => hTt _ _ (by omega) (by omega))
  · exact hK.congr (fun f j hf => hI f j (by omega) (by omega) (by omega) (by omega)) (fun f j hf => hTt f j (by omega) (by omega))
  · intro j hj
    unfold SF1
    rw [hI 38 j (by omega) (by omega) (by omega) (by omega), hI 114 0 (by omega) (by omega) (by omega) (by omega), hTt 1032 j (by omega) (by omega)]
    exact hF j hj
  · unfold SB
    rw [hI 114 0 (by omega) (by omega) (by omega) (by omega), hTt 1033 0 (by omega) (by omega)]
    exact hB
  · exact hR.congr (by rw [hRr]; exact r5 112 0 (by omega) (by omega) (by omega)) (by rw [hRr]; exact r5 113 0 (by omega) (by omega) (by omega)) (fun i => by rw [hRr]; exact r5 39 i (by omega) (by omega) (by omega))
  · exact hM.congr (hTt 1030 0 (by omega) (by omega)) (fun k => hTt 1031 k (by omega) (by omega))
  · refine hL.congr (hI 65 0 (by omega) (by omega) (by omega) (by omega)) (hTt 1036 0 (by omega) (by omega)) (fun k => hTt 1037 k (by omega) (by omega)) (fun k => by rw [hRr]; exact r5 64 k (by omega) (by omega) (by omega)) (fun k => by rw [hRr]; exact r5 81 k (by omega) (by omega) (by omega)) (fun f q hf _ _ => hI f q (by omega) (by omega) (by omega) (by omega)) (fun q w => ?_) ?_
    · rcases w with w | w
      · rcases hmem q w with w | w
        · exact Or.inl w
        · exact Or.inr (by rw [w])
      · cases w
    · rw [← eW, ← eW']
      show W' + 0 ≤ W + 1
      omega
  · refine ⟨fun k q hk => ?_, fun k q hk => ?_⟩
    · rw [hRr, r5 64 k (by omega) (by omega) (by omega)] at hk
      exact hRF.1 k q hk
    · rw [hRr] at hk
      by_cases hk2 : k ∈ l ++ [p]
      · have hq := chain_mem r3 hk2 hk
        rcases List.mem_append.mp hq with hq | hq
        · exact (a5 q hq).1
        · have : q = p := by simpa using hq
          rw [this]; exact hp.1
      · rw [r4 k (fun w => hk2 (List.mem_append_left _ w))] at hk
        exact hRF.2 k q hk
  · exact hCV.congr (hI 1 0 (by omega) (by omega) (by omega) (by omega)) (hI 2 0 (by omega) (by omega) (by omega) (by omega)) (fun k => hD 0 k) (hTt 1034 0 (by omega) (by omega)) (fun k => hTD 1035 k)
  · rw [← eW', hWW]
    exact fun j hj => (hDV j hj).congr (fun f hf => hI f j (by omega) (by omega) (by omega) (by omega)) (fun f _ => hD f j) (fun f hf => hTt f j (by omega) (by omega)) (fun f _ => hTD f j)
  · exact fun j hj => (hMV j hj).congr (fun f hf => hI f j (by omega) (by omega) (by omega) (by omega)) (fun f _ => hD f j) (fun f hf => hTt f j (by omega) (by omega)) (fun f _ => hTD f j)
  · rw [hI 80 p (by omega) (by omega) (by omega) (by omega)]; exact h80
/-- a packet let in, both sides -/
theorem put_ok {n now b p bp : Nat} {a3 y0 : Int32} {σ τ s3 : ST} {qs : Nat → List Nat} {rd : List Nat} (h : Sim n now qs rd (some p) σ τ) (hb : b < 6) (h99 : (tot fun j => (qs j).length) < 100) (hDV : DVs (n - ((tot fun j => (qs j).length) + 1)) σ τ) (hp : okP n σ b p) (hpl : ¬ live qs p) (h87 : sR σ 87 p = none) (h80 : sI σ 80 p = sI s3 1002 0) (h82 : sI σ 82 p = nI bp) (hbp : bp ≤ 1500) (h83 : sI σ 83 p = nI now) (h84 : sI σ 84 p = a3) (h85 : (y0 = 2 ∧ sI σ 85 p = 1) ∨ (¬ y0 = 2 ∧ sI σ 85 p = 0)) :
    ∃ σ' τ' qs' rd', (∀ K : ST → Prop, K σ' → wp_X8_putIn n σ p K) ∧ (∀ (K : Int32 → ST → Prop) (J71 : ST → Int32 → Int32 → Prop) (G113 G167 : ST → Prop), K (sI s3 1002 0) τ' → wp_X9_come_J205 (nI b) (nI bp) a3 y0 s3 K J71 G113 G167 τ) ∧ Sim n now qs' rd' none σ' τ' ∧ sI σ' 80 p = sI s3 1002 0 ∧ sI τ' 1000 0 = sI τ 1000 0 := by
  obtain ⟨hQ, hW, hS, hC, hK, hF, hB, hR, hM, hRQ, hL, hRF, hCV, _, hMV, hn⟩ := h
  have hin : vp_in (nI b) 6 := vp_in_nI hb (by decide)
  have hc : (nI b).toNatClampNeg = b := nI_clamp (by omega)
  have h98 : sI σ 98 b = nI (qs b).length := (hQ b hb).2.2.2.2.2.1
  have h1023 : sI τ 1023 b = nI (qs b).length := (hQ b hb).2.2.2.2.2.2.2.1
  have hl100 := hW.len b hb
  by_cases he : qs b = []
  · have hbr : b ∉ rd := fun w => (hRQ b hb).mp w he
    have z98 : sI σ 98 b = 0 := by rw [h98, he]; rfl
    have z1023 : sI τ 1023 b = 0 := by rw [h1023, he]; rfl
    have hlen5 : rd.length ≤ 5 := by
      have hnd : (b :: rd).Nodup := List.nodup_cons.mpr ⟨hbr, hR.2.2.2.1⟩
      have := len6 hnd (fun i hi => by
        rcases List.mem_cons.mp hi with w | w
        · rw [w]; exact hb
        · exact hR.2.2.2.2.1 i w)
      simp at this
      omega
    obtain ⟨σj, kj, jR, jr, jI, jD⟩ := joinT (n := n) hR hbr hb
    obtain ⟨τj, eτ⟩ : ∃ z, z = upI (upI (upI τ 1031 rd.length (nI b)) 1030 0 (nI (rd.length + 1))) 1032 b 0 := ⟨_, rfl⟩
    have hT : ∀ f k, f ≠ 1030 → f ≠ 1031 → ¬ (f = 1032 ∧ k = b) → sI τj f k = sI τ f k := fun f k g1 g2 g3 => by
      rw [eτ]
      simp only [sI_upI]
      rw [if_neg g3, if_neg (by omega), if_neg (by omega)]
    have hTD : ∀ f k, sD τj f k = sD τ f k := fun f k => by rw [eτ]; rfl
    have t32 : sI τj 1032 b = 0 := by rw [eτ, sI_upI, if_pos ⟨rfl, rfl⟩]
    have hRj : ∀ f k, f ≠ 112 → f ≠ 113 → f ≠ 39 → sR σj f k = sR σ f k := jr
    have hpj : okP n σj b p := hp.congr (hRj 81 p (by omega) (by omega) (by omega)) (fun f _ => jI f p)
    have pM : MR τj (rd ++ [b]) := by
      refine ⟨?_, fun k i hk => ?_⟩
      · rw [eτ, sI_upI, if_neg (by omega), sI_upI, if_pos ⟨rfl, rfl⟩]; simp
      · rw [eτ, sI_upI, if_neg (by omega), sI_upI, if_neg (by omega), sI_upI]
        by_cases e : k = rd.length
        · subst e
          rw [if_pos ⟨rfl, rfl⟩]
          simp at hk
          rw [hk]
        · rw [if_neg (fun w => e w.2)]
          have hlt : k < rd.length := by
            have := (List.getElem?_eq_some_iff.mp hk).1
            simp at this
            omega
          rw [List.getElem?_append_left hlt] at hk
          exact hM.2 k i hk
    have pF : SF σj τj (rd ++ [b]) := by
      intro j hj
      obtain ⟨w1, w2, d, w3, w4, w5⟩ := hF j hj
      by_cases e : j = b
      · subst e
        have z : sI σ 38 j = 0 := w2 hbr
        refine ⟨fun _ => by rw [jI, t32]; exact z, fun w => absurd (by simp) w, 0, by rw [jI]; exact z, by omega, Or.inl (by omega)⟩
      · refine ⟨fun w => ?_, fun w => ?_, d, by rw [jI]; exact w3, w4, ?_⟩
        · rw [jI, hT 1032 j (by omega) (by omega) (by omega)]
          refine w1 ?_
          rcases List.mem_append.mp w with w | w
          · exact w
          · exact absurd (by simpa using w) e
        · rw [jI]; exact w2 (fun q => w (List.mem_append_left _ q))
        · rcases w5 with w5 | ⟨w5, w6⟩
          · exact Or.inl w5
          · refine Or.inr ⟨?_, by rw [jI]; exact w6⟩
            rw [head_push b (fun q => by rw [q] at w5; cases w5)]
            exact w5
    have hQj : SQ n σj τj qs := hQ.congr hW.len (fun f k hf => hRj f k (by omega) (by omega) (by omega)) (fun q _ => hRj 87 q (by omega) (by omega) (by omega)) (fun f q _ _ => jI f q) (fun f j _ => jI f j) (fun k => hT 1023 k (by omega) (by omega) (by omega)) (fun f k hf => hT f k (by omega) (by omega) (by omega))
    have pRQ : ∀ j, j < 6 → (j ∈ rd ++ [b] ↔ qset qs b (qs b ++ [p]) j ≠ []) := by
      intro j hj
      by_cases e : j = b
      · subst e
        rw [qset_s]
        exact ⟨fun _ => by simp, fun _ => by simp⟩
      · rw [qset_n _ e, ← hRQ j hj]
        exact ⟨fun w => by
          rcases List.mem_append.mp w with w | w
          · exact w
          · exact absurd (by simpa using w) e, fun w => List.mem_append_left _ w⟩
    obtain ⟨σ', τ', kc, km, hSim, g1, g2⟩ := put_core (s3 := s3) (y0 := y0) (a3 := a3) (bp := bp) hb hQj (hW.congr (fun f _ => jI f 0) (fun q _ => jI 82 q)) h99 (hS.congr (fun f _ => jI f 0) (fun f _ => jD f 0) (fun f hf => hT f 0 (by omega) (by omega) (by omega)) (fun f _ => hTD f 0)) (fun j hj => (hC j hj).congr (fun f _ => jI f j) (fun k _ => hT _ _ (by omega) (by omega) (by omega))) (hK.congr (fun f j _ => jI f j) (fun f j hf => hT f j (by omega) (by omega) (by omega))) pF (by
        unfold SB
        rw [jI, hT 1033 0 (by omega) (by omega) (by omega)]
        exact hB) jR pM pRQ (hL.congr (jI 65 0) (hT 1036 0 (by omega) (by omega) (by omega)) (fun k => hT 1037 k (by omega) (by omega) (by omega)) (fun k => hRj 64 k (by omega) (by omega) (by omega)) (fun k => hRj 81 k (by omega) (by omega) (by omega)) (fun f q _ _ _ => jI f q) (fun _ w => w) (Nat.le_refl _)) ⟨fun k q hk => hRF.1 k q (by rw [← hRj 64 k (by omega) (by omega) (by omega)]; exact hk), fun k q hk => hRF.2 k q (by rw [← hRj 87 k (by omega) (by omega) (by omega)]; exact hk)⟩ (hCV.congr (jI 1 0) (jI 2 0) (fun k => jD 0 k) (hT 1034 0 (by omega) (by omega) (by omega)) (fun k => hTD 1035 k)) (fun j hj => (hDV j hj).congr (fun f _ => jI f j) (fun f _ => jD f j) (fun f hf => hT f j (by omega) (by omega) (by omega)) (fun f _ => hTD f j)) (fun j hj => (hMV j hj).congr (fun f _ => jI f j) (fun f _ => jD f j) (fun f hf => hT f j (by omega) (by omega) (by omega)) (fun f _ => hTD f j)) hn hpj hpl (by rw [hRj 87 p (by omega) (by omega) (by omega)]; exact h87) (by rw [jI]; exact h80) (by rw [jI]; exact h82) hbp (by rw [jI]; exact h83) (by rw [jI]; exact h84) (by rw [jI]; exact h85)
    refine ⟨σ', τ', _, _, fun K hKK => ?_, fun K J71 G113 G167 hKK => ?_, hSim, g1, g2.trans (hT 1000 0 (by omega) (by omega) (by omega))⟩
    · unfold wp_X8_putIn
      refine ⟨hp.1, b, hp.2.1, hb, hb, fun w => absurd z98 w, fun _ => ⟨b, hp.2.1, kj _ ⟨b, hpj.2.1, hb, hb, ?_⟩⟩⟩
      exact kc K hKK
    · unfold wp_X9_come_J205
      rw [hc, hM.1]
      refine ⟨hin, fun w => absurd z1023 w, fun _ => ⟨vp_in_nI (by omega) (by decide), fun s37 e37 s38 e38 => ⟨hin, fun s40 e40 => ?_⟩⟩⟩
      rw [nI_clamp (by omega)] at e37
      have q30 : sI s37 1030 0 + 1 = nI (rd.length + 1) := by rw [e37, sI_upI, if_neg (by omega), hM.1, nI_1]
      have : s40 = τj := by rw [e40, e38, q30, e37, eτ]
      rw [this]
      exact km K J71 G113 G167 hKK
  · have hpos : 0 < (qs b).length := List.length_pos_iff.mpr he
    have z98 : ¬ sI σ 98 b = 0 := by rw [h98]; exact nI_ne0 hpos (by omega)
    have z1023 : ¬ sI τ 1023 b = 0 := by rw [h1023]; exact nI_ne0 hpos (by omega)
    have pRQ : ∀ j, j < 6 → (j ∈ rd ↔ qset qs b (qs b ++ [p]) j ≠ []) := by
      intro j hj
      rw [hRQ j hj]
      by_cases e : j = b
      · subst e
        rw [qset_s]
        exact ⟨fun _ => by simp, fun _ => he⟩
      · rw [qset_n _ e]
    obtain ⟨σ', τ', kc, km, hSim, g1, g2⟩ := put_core (s3 := s3) (y0 := y0) (a3 := a3) (bp := bp) hb hQ hW h99 hS hC hK hF hB hR hM pRQ hL hRF hCV hDV hMV hn hp hpl h87 h80 h82 hbp h83 h84 h85
    refine ⟨σ', τ', _, _, fun K hKK => ?_, fun K J71 G113 G167 hKK => ?_, hSim, g1, g2⟩
    · unfold wp_X8_putIn
      refine ⟨hp.1, b, hp.2.1, hb, hb, fun _ => ⟨b, hp.2.1, hb, hb, ?_⟩, fun w => absurd w z98⟩
      exact kc K hKK
    · unfold wp_X9_come_J205
      rw [hc]
      exact ⟨hin, fun _ => km K J71 G113 G167 hKK, fun w => absurd w z1023⟩
