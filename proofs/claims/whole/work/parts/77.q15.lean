theorem and31 {u : Nat} (h : u < 2 ^ 31) : nI u &&& 31 = nI (u % 32) := pk_andN (by omega) 5 (by decide)
/-- a packet sent, both sides -/
theorem send_ok {n now b p : Nat} {σ τ : ST} {qs : Nat → List Nat} {rd : List Nat} (h : Sim n now qs rd (some p) σ τ) (hF : FL n now σ τ b p) (hnl : ¬ live qs p) (hfree : ZF (sD σ 138 0) ≤ ZF (FP.i2d (nI now))) :
    ∃ σ' τ', (∀ K : ST → Prop, K σ' → wp_X8_send n σ p K) ∧ (∀ K : ST → Prop, K τ' → wp_X9_send τ (nI b) K) ∧ Sim n now qs rd none σ' τ' ∧ sI τ' 1000 0 = sI τ 1000 0 := by
  obtain ⟨hQ, hW, hS, hC, hK, hFF, hB, hR, hM, hRQ, hL, hRF, hCV, hDV, hMV, hn⟩ := h
  obtain ⟨hb6, hp, f86, f38, f39, f40, f42⟩ := hF
  obtain ⟨bp, b1, b2, b3⟩ := hp.2.2.1
  obtain ⟨c, l1, l2, l3, l5, l4⟩ := hL
  have hx1 : xc (some p) = 1 := rfl
  obtain ⟨s1, s2, s3, s4, s5, s6, s7, s8, s9, s10, s11⟩ := id hS
  -- the link's new time
  have hfb : bd 0 4096000 (sD σ 138 0) := ⟨s11.1, s11.2.1, Int.le_trans hfree (now_bd s3).2.2⟩
  have hbn : bd 0 12000 (FP.i2d (nI bp)) := by
    have := bd_i2d (nI bp)
    rw [nI_toInt (by omega)] at this
    exact this.weaken (by omega) (by omega)
  have q1 : bd 0 96000 (FP.ddiv (FP.i2d (nI bp)) (sD σ 137 0)) := bd_div hbn (s10.fin (by decide) (by decide)) s10.2.1 (by decide) (by decide) (by decide) (by decide) (by decide)
  have q2 := bd_add hfb q1 (by decide) (by decide) (by decide) (by decide) (by decide) (by decide)
  obtain ⟨x, ex⟩ : ∃ x, x = FP.dadd (sD σ 138 0) (FP.ddiv (FP.i2d (nI bp)) (sD σ 137 0)) := ⟨_, rfl⟩
  -- the class side
  obtain ⟨σ', eσ⟩ : ∃ z, z = upD (upR (upI (upI (upI σ 41 b (sI σ 41 b + 1)) 42 b (sI σ 42 b + nI bp)) 65 0 (nI (c + 1))) 64 ((c + 1) % 32) (some p)) 138 0 x := ⟨_, rfl⟩
  have hI : ∀ f k, ¬ ((f = 41 ∨ f = 42) ∧ k = b) → f ≠ 65 → sI σ' f k = sI σ f k := fun f k g1 g2 => by
    rw [eσ]; simp only [sI_upI, sI_upD, sI_upR]
    rw [if_neg (fun w => g2 w.1), if_neg (by omega), if_neg (by omega)]
  have hD : ∀ f k, f ≠ 138 → sD σ' f k = sD σ f k := fun f k g => by
    rw [eσ]; rw [sD_upD, if_neg (fun w => g w.1)]; rfl
  have hRr : ∀ f k, f ≠ 64 → sR σ' f k = sR σ f k := fun f k g => by
    rw [eσ]; rw [sR_upD, sR_upR, if_neg (fun w => g w.1)]; rfl
  have h64 : ∀ k, sR σ' 64 k = if k = (c + 1) % 32 then some p else sR σ 64 k := fun k => by
    rw [eσ, sR_upD, sR_upR]
    by_cases e : k = (c + 1) % 32
    · rw [if_pos ⟨rfl, e⟩, if_pos e]
    · rw [if_neg (fun w => e w.2), if_neg e]; rfl
  have d138 : sD σ' 138 0 = x := by rw [eσ, sD_upD, if_pos ⟨rfl, rfl⟩]
  have i41 : sI σ' 41 b = sI σ 41 b + 1 := by rw [eσ]; simp only [sI_upI, sI_upD, sI_upR]; rw [if_neg (by omega), if_neg (by omega), if_pos (by simp)]
  have i42 : sI σ' 42 b = sI σ 42 b + nI bp := by rw [eσ]; simp only [sI_upI, sI_upD, sI_upR]; rw [if_neg (by omega), if_pos (by simp)]
  have i65 : sI σ' 65 0 = nI (c + 1) := by rw [eσ]; simp only [sI_upI, sI_upD, sI_upR]; rw [if_pos (by simp)]
  -- the model's side
  have i1 : vp_in (nI (10 * b + 1)) 60 := vp_in_nI (by omega) (by decide)
  have i8 : vp_in (nI (10 * b + 8)) 60 := vp_in_nI (by omega) (by decide)
  have c1 : (nI (10 * b + 1)).toNatClampNeg = 10 * b + 1 := nI_clamp (by omega)
  have c8 : (nI (10 * b + 8)).toNatClampNeg = 10 * b + 8 := nI_clamp (by omega)
  have e1 : (10 : Int32) * nI b + 1 = nI (10 * b + 1) := by rw [show (10 : Int32) = nI 10 from rfl, pk_mul, nI_1]
  have e8 : (10 : Int32) * nI b + 8 = nI (10 * b + 8) := by rw [show (10 : Int32) = nI 10 from rfl, show (8 : Int32) = nI 8 from rfl, pk_mul, nI_add]
  have t39 : sI τ 1039 0 = nI bp := by rw [f39]; exact b3
  obtain ⟨z0, ez⟩ : ∃ z, z = upD (upI (upI τ 1029 (10 * b + 1) (sI τ 1029 (10 * b + 1) + 1)) 1029 (10 * b + 8) (sI τ 1029 (10 * b + 8) + nI bp)) 1005 0 x := ⟨_, rfl⟩
  have hz : ∀ f k, f ≠ 1029 → sI z0 f k = sI τ f k := fun f k g => by
    rw [ez]; simp only [sI_upI, sI_upD]
    rw [if_neg (fun w => g w.1), if_neg (fun w => g w.1)]
  obtain ⟨τ', k', m0, m1, m2, m3, m4, m5, m6, m7, m8⟩ := send_loop (b := b) (z0 := z0) 155 z0 (by omega) (fun _ _ _ => rfl) (fun y g1 g2 => absurd g2 (by omega)) (fun _ _ => rfl) (fun _ _ => rfl)
  have hT : ∀ f k, f ≠ 1037 → f ≠ 1036 → ¬ (f = 1029 ∧ (k = 10 * b + 1 ∨ k = 10 * b + 8)) → sI τ' f k = sI τ f k := fun f k g1 g2 g3 => by
    rw [m7 f k g1 g2, ez]; simp only [sI_upI, sI_upD]
    rw [if_neg (by omega), if_neg (by omega)]
  have hTD : ∀ f k, f ≠ 1005 → sD τ' f k = sD τ f k := fun f k g => by
    rw [m8, ez, sD_upD, if_neg (fun w => g w.1)]; rfl
  have t05 : sD τ' 1005 0 = x := by rw [m8, ez, sD_upD, if_pos ⟨rfl, rfl⟩]
  have t1 : sI τ' 1029 (10 * b + 1) = sI τ 1029 (10 * b + 1) + 1 := by
    rw [m7 1029 _ (by omega) (by omega), ez]; simp only [sI_upI, sI_upD]
    rw [if_neg (by omega), if_pos (by simp)]
  have t8 : sI τ' 1029 (10 * b + 8) = sI τ 1029 (10 * b + 8) + nI bp := by
    rw [m7 1029 _ (by omega) (by omega), ez]; simp only [sI_upI, sI_upD]
    rw [if_pos (by simp)]
  refine ⟨σ', τ', fun K hKK => ?_, fun K hKK => ?_, ⟨?_, ?_, ?_, ?_, ?_, ?_, ?_, ?_, ?_, hRQ, ?_, ?_, ?_, ?_, ?_, hn⟩, hT 1000 0 (by omega) (by omega) (by omega)⟩
  · unfold wp_X8_send
    refine ⟨hp.1, b, hp.2.1, hb6, fun s5 e5 => ⟨b, by rw [e5]; exact hp.2.1, hb6, fun s9 e9 => ?_⟩⟩
    unfold wp_X4_add wp_X4_place
    intro sa ea
    have g65 : sI s9 65 0 = nI c := by rw [e9, e5, sI_upI, if_neg (by omega), sI_upI, if_neg (by omega)]; exact l1
    rw [g65, nI_1] at ea
    have g65a : sI sa 65 0 = nI (c + 1) := by rw [ea, sI_upI, if_pos ⟨rfl, rfl⟩]
    have hm32 : (c + 1) % 32 < 32 := Nat.mod_lt _ (by decide)
    rw [g65a, and31 (by omega)]
    refine ⟨vp_in_nI hm32 (by decide), hp.1, fun sb eb => ?_⟩
    rw [nI_clamp (by omega)] at eb
    have g82 : sI sb 82 p = nI bp := by rw [eb, sI_upR, ea, sI_upI, if_neg (by omega), e9, sI_upI, if_neg (by omega), e5, sI_upI, if_neg (by omega)]; exact b3
    have g137 : sD sb 137 0 = sD σ 137 0 := by rw [eb, ea, e9, e5]; rfl
    have g138 : sD sb 138 0 = sD σ 138 0 := by rw [eb, ea, e9, e5]; rfl
    rw [g82, g137, g138]
    refine ⟨q1.n64, q2.n64, fun s11 e11 => ?_⟩
    rw [← ex] at e11
    have es : s11 = σ' := by
      rw [e11, eb, ea, e9, eσ]
      have h42 : sI s5 42 b + sI s5 82 p = sI σ 42 b + nI bp := by rw [e5, sI_upI, if_neg (by omega), sI_upI, if_neg (by omega), b3]
      rw [h42, e5]
    rw [es]; exact hKK
  · unfold wp_X9_send
    rw [e1, e8, c1, c8]
    refine ⟨i1, i1, fun s3 es3 => ⟨i8, i8, fun s6 es6 => ?_⟩⟩
    have g39 : sI s3 1039 0 = nI bp := by rw [es3, sI_upI, if_neg (by omega)]; exact t39
    have g8 : sI s3 1029 (10 * b + 8) = sI τ 1029 (10 * b + 8) := by rw [es3, sI_upI, if_neg (by omega)]
    rw [g39, g8] at es6
    have g39' : sI s6 1039 0 = nI bp := by rw [es6, sI_upI, if_neg (by omega)]; exact g39
    have g03 : sD s6 1003 0 = sD σ 137 0 := by rw [es6, es3, s8]; rfl
    have g05 : sD s6 1005 0 = sD σ 138 0 := by rw [es6, es3, s9]; rfl
    rw [g39', g03, g05]
    refine ⟨q1.n64, q2.n64, fun s7 es7 => ⟨156, ?_⟩⟩
    rw [← ex] at es7
    have es : s7 = z0 := by rw [es7, es6, es3, ez]
    rw [es]; exact k' K hKK
  · exact hQ.congr hW.len (fun f k hf => hRr f k (by omega)) (fun q _ => hRr 87 q (by omega)) (fun f q hf _ => hI f q (by omega) (by omega)) (fun f j hf => hI f j (by omega) (by omega)) (fun k => hT 1023 k (by omega) (by omega) (by omega)) (fun f k hf => hT f k (by omega) (by omega) (by omega))
  · exact hW.congr (fun f hf => hI f 0 (by omega) (by omega)) (fun q _ => hI 82 q (by omega) (by omega))
  · unfold SS
    rw [hI 132 0 (by omega) (by omega), hI 133 0 (by omega) (by omega), hI 136 0 (by omega) (by omega), hT 1001 0 (by omega) (by omega) (by omega), hT 1002 0 (by omega) (by omega) (by omega), hT 1004 0 (by omega) (by omega) (by omega), hD 137 0 (by omega), hTD 1003 0 (by omega), d138, t05]
    exact ⟨s1, s2, s3, s4, s5, s6, s7, s8, rfl, s10, by rw [ex]; exact q2.weaken (by decide) (by decide)⟩
  · intro j hj
    by_cases e : j = b
    · subst e
      obtain ⟨w0, w1, w2, w3, w4, w5, w8⟩ := hC j hj
      have gI : ∀ f, f = 40 ∨ f = 43 ∨ f = 44 ∨ f = 45 ∨ f = 46 → sI σ' f j = sI σ f j := fun f hf => hI f j (by omega) (by omega)
      have gT : ∀ k, k = 0 ∨ k = 2 ∨ k = 3 ∨ k = 4 ∨ k = 5 → sI τ' 1029 (10 * j + k) = sI τ 1029 (10 * j + k) := fun k hk => hT _ _ (by omega) (by omega) (by omega)
      unfold SC1
      rw [gI 40 (by omega), gI 43 (by omega), gI 44 (by omega), gI 45 (by omega), gI 46 (by omega), gT 0 (by omega), gT 2 (by omega), gT 3 (by omega), gT 4 (by omega), gT 5 (by omega), i41, i42, t1, t8, w1, w8]
      exact ⟨w0, rfl, w2, w3, w4, w5, rfl⟩
    · exact (hC j hj).congr (fun f hf => hI f j (by omega) (by omega)) (fun k hk => hT _ _ (by omega) (by omega) (by omega))
  · exact hK.congr (fun f j hf => hI f j (by omega) (by omega)) (fun f j hf => hT f j (by omega) (by omega) (by omega))
  · intro j hj
    unfold SF1
    rw [hI 38 j (by omega) (by omega), hT 1032 j (by omega) (by omega) (by omega), hI 114 0 (by omega) (by omega)]
    exact hFF j hj
  · unfold SB
    rw [hI 114 0 (by omega) (by omega), hT 1033 0 (by omega) (by omega) (by omega)]
    exact hB
  · exact hR.congr (hRr 112 0 (by omega)) (hRr 113 0 (by omega)) (fun i => hRr 39 i (by omega))
  · exact hM.congr (hT 1030 0 (by omega) (by omega) (by omega)) (fun k => hT 1031 k (by omega) (by omega) (by omega))
  · -- the log
    refine ⟨c + 1, i65, ?_, ?_, fun y hy hc hz => ?_, fun k hk => ?_⟩
    · show c + 1 + _ + 0 ≤ n
      omega
    · rw [m6, hz 1036 0 (by omega), l3]
      by_cases hc32 : 32 ≤ c
      · have : (32 : Int32) ≤ nI (min c 32) := by rw [show min c 32 = 32 by omega]; decide
        rw [if_pos this, show min (c + 1) 32 = 32 by omega]; rfl
      · have : ¬ (32 : Int32) ≤ nI (min c 32) := nI_ge (b := 32) (by omega) (by decide)
        rw [if_neg this, nI_1, show min (c + 1) 32 = min c 32 + 1 by omega]
    · rw [h64, if_neg (by omega)]
      exact l5 y hy (by omega) (by omega)
    · cases k with
      | zero =>
        refine ⟨p, ?_, hp.1, hnl, fun w => (by cases w), ⟨b, hb6, by rw [hRr 81 p (by omega)]; exact hp.2.1, ?_⟩, ?_, ?_, ?_, ?_⟩
        · rw [h64, if_pos (by omega)]
        · exact m2
        · rw [show 5 * 0 + 0 = 0 from rfl, m1, hz 1038 0 (by omega), f38, hI 80 p (by omega) (by omega)]
        · rw [show 5 * 0 + 2 = 2 from rfl, m3, hz 1039 0 (by omega), f39, hI 82 p (by omega) (by omega)]
        · rw [show 5 * 0 + 3 = 3 from rfl, m4, hz 1001 0 (by omega), hz 1040 0 (by omega), f40, s2, hI 86 p (by omega) (by omega), f86]
        · rw [show 5 * 0 + 4 = 4 from rfl, m5, hz 1042 0 (by omega), f42, hI 85 p (by omega) (by omega)]
      | succ k =>
        obtain ⟨q, w1, w2, w3, w4, ⟨j, w5, w6, w7⟩, w8, w9, w10, w11⟩ := l4 k (by omega)
        have hsh : ∀ i, i < 5 → sI τ' 1037 (5 * (k + 1) + i) = sI τ 1037 (5 * k + i) := fun i hi => by
          rw [m0 _ (by omega) (by omega), hz 1037 _ (by omega), show 5 * (k + 1) + i - 5 = 5 * k + i by omega]
        have hne : (c - k) % 32 ≠ (c + 1) % 32 := by omega
        refine ⟨q, ?_, w2, w3, fun w => (by cases w), ⟨j, w5, by rw [hRr 81 q (by omega)]; exact w6, by rw [hsh 1 (by omega)]; exact w7⟩, ?_, ?_, ?_, ?_⟩
        · rw [h64, show c + 1 - (k + 1) = c - k by omega, if_neg hne]; exact w1
        · rw [hsh 0 (by omega), hI 80 q (by omega) (by omega)]; exact w8
        · rw [hsh 2 (by omega), hI 82 q (by omega) (by omega)]; exact w9
        · rw [hsh 3 (by omega), hI 86 q (by omega) (by omega)]; exact w10
        · rw [hsh 4 (by omega), hI 85 q (by omega) (by omega)]; exact w11
  · refine ⟨fun k q hk => ?_, fun k q hk => hRF.2 k q (by rw [← hRr 87 k (by omega)]; exact hk)⟩
    rw [h64] at hk
    split at hk
    · cases hk; exact hp.1
    · exact hRF.1 k q hk
  · exact hCV.congr (hI 1 0 (by omega) (by omega)) (hI 2 0 (by omega) (by omega)) (fun k => hD 0 k (by omega)) (hT 1034 0 (by omega) (by omega) (by omega)) (fun k => hTD 1035 k (by omega))
  · exact fun j hj => (hDV j hj).congr (fun f hf => hI f j (by omega) (by omega)) (fun f hf => hD f j (by omega)) (fun f hf => hT f j (by omega) (by omega) (by omega)) (fun f hf => hTD f j (by omega))
  · exact fun j hj => (hMV j hj).congr (fun f hf => hI f j (by omega) (by omega)) (fun f hf => hD f j (by omega)) (fun f hf => hT f j (by omega) (by omega) (by omega)) (fun f hf => hTD f j (by omega))
