/-- link, both sides -/
theorem link_ok {n now l : Nat} {k1 : Int} {a1 : UInt64} {qs : Nat → List Nat} {rd : List Nat} {σ τ : ST} (h : Sim n now qs rd none σ τ) (p1 : bd k1 k1 a1) (v1 : 1 ≤ k1) (v2 : k1 ≤ 80000) (hl1 : 1 ≤ l) (hl : l ≤ 1000000) :
    ∃ σ' τ', (∀ (K : ST → Prop) (KX : String → ST → Prop), K σ' → wp_X8_link n σ a1 (nI l) K KX) ∧ (∀ K : ST → Prop, K τ' → wp_X9_link τ a1 (nI l) K) ∧ Sim n now qs rd none σ' τ' ∧ sI τ' 1000 0 = 0 := by
  obtain ⟨s3, es3⟩ : ∃ z, z = upI τ 1000 0 0 := ⟨_, rfl⟩
  have h0 := thr_sim 0 h
  rw [← es3] at h0
  have c1 : ¬ (Op.cmpValue (FP.dcmp a1 4593671619917905920) .l) < 0 := fun w => by have := (e_lt p1 bd_e).mp w; omega
  have c2 : (Op.cmpValue (FP.dcmp a1 4666723172467343360) .g) ≤ 0 := (e_le p1 bd_10000).mpr v2
  have c2' : ¬ 0 < (Op.cmpValue (FP.dcmp a1 4666723172467343360) .g) := fun w => by have := (e_gt p1 bd_10000).mp w; omega
  have hI : ∀ f k, f ≠ 136 → sI (upI (upD σ 137 0 a1) 136 0 (nI l)) f k = sI σ f k := fun f k g => by rw [sI_upI, if_neg (fun w => g w.1), sI_upD]
  have hD : ∀ f k, f ≠ 137 → sD (upI (upD σ 137 0 a1) 136 0 (nI l)) f k = sD σ f k := fun f k g => by rw [sD_upI, sD_upD, if_neg (fun w => g w.1)]
  have hT : ∀ f k, f ≠ 1004 → sI (upI (upD s3 1003 0 a1) 1004 0 (nI l)) f k = sI s3 f k := fun f k g => by rw [sI_upI, if_neg (fun w => g w.1), sI_upD]
  have hTD : ∀ f k, f ≠ 1003 → sD (upI (upD s3 1003 0 a1) 1004 0 (nI l)) f k = sD s3 f k := fun f k g => by rw [sD_upI, sD_upD, if_neg (fun w => g w.1)]
  obtain ⟨hQ, hW, hS, hC, hK, hF, hB, hR, hM, hRQ, hL, hRF, hCV, hDV, hMV, hn⟩ := h0
  refine ⟨upI (upD σ 137 0 a1) 136 0 (nI l), upI (upD s3 1003 0 a1) 1004 0 (nI l), fun K KX hKK => ?_, fun K hKK => ?_, ⟨hQ.congr hW.len (fun _ _ _ => rfl) (fun _ _ => rfl) (fun f p hf _ => hI f p (by omega)) (fun f j hf => hI f j (by omega)) (fun k => hT 1023 k (by omega)) (fun f k hf => hT f k (by omega)), hW.congr (fun f hf => hI f 0 (by omega)) (fun p _ => hI 82 p (by omega)), ?_, fun j hj => (hC j hj).congr (fun f hf => hI f j (by omega)) (fun k _ => hT _ _ (by omega)), hK.congr (fun f j hf => hI f j (by omega)) (fun f j hf => hT f j (by omega)), ?_, ?_, hR.congr rfl rfl (fun _ => rfl), hM.congr (hT 1030 0 (by omega)) (fun k => hT 1031 k (by omega)), hRQ, hL.congr (hI 65 0 (by omega)) (hT 1036 0 (by omega)) (fun k => hT 1037 k (by omega)) (fun _ => rfl) (fun _ => rfl) (fun f p hf _ _ => hI f p (by omega)) (fun _ w => w) (Nat.le_refl _), hRF, hCV.congr (hI 1 0 (by omega)) (hI 2 0 (by omega)) (fun k => hD 0 k (by omega)) (hT 1034 0 (by omega)) (fun k => hTD 1035 k (by omega)), fun j hj => (hDV j hj).congr (fun f hf => hI f j (by omega)) (fun f hf => hD f j (by omega)) (fun f hf => hT f j (by omega)) (fun f hf => hTD f j (by omega)), fun j hj => (hMV j hj).congr (fun f hf => hI f j (by omega)) (fun f hf => hD f j (by omega)) (fun f hf => hT f j (by omega)) (fun f hf => hTD f j (by omega)), hn⟩, ?_⟩
  · refine ⟨fun w => absurd w c1, fun _ => ⟨fun _ => ⟨fun w => absurd w (nI_nlt (b := 1) hl1 (by omega)), fun _ => ⟨fun _ s3 e3 s4 e4 => ?_, fun w => absurd (nI_le (b := 1000000) hl (by decide)) w⟩⟩, fun w => absurd c2 w⟩⟩
    rw [e4, e3]
    exact hKK
  · unfold wp_X9_link
    refine ⟨fun w => absurd w c1, fun _ => ⟨fun w => absurd w c2', fun _ => isIn_t (nI_nlt (b := 1) hl1 (by omega)) (nI_nlt (b := l) (a := 1000000) hl (by decide)) ⟨fun w => absurd w z10, fun _ => ?_⟩⟩⟩
    unfold wp_X9_link_J31 wp_X9_link_J44
    refine ⟨fun w => absurd w z10, fun _ => ref0 ⟨fun _ sa ea sb eb => ?_, fun w => absurd rfl w⟩⟩
    rw [eb, ea, ← es3]
    exact hKK
  · obtain ⟨u1, u2, u3, u4, u5, u6, u7, u8, u9, u10, u11⟩ := hS
    unfold SS
    rw [hI 132 0 (by omega), hI 133 0 (by omega), hT 1001 0 (by omega), hT 1002 0 (by omega), hD 138 0 (by omega), hTD 1005 0 (by omega), sI_s, sI_s, sD_upI, sD_upI, sD_s, sD_s]
    exact ⟨u1, u2, u3, u4, u5, rfl, ⟨l, hl1, hl, rfl⟩, rfl, u9, p1.weaken v1 v2, u11⟩
  · intro j hj
    unfold SF1
    rw [hI 38 j (by omega), hI 114 0 (by omega), hT 1032 j (by omega)]
    exact hF j hj
  · unfold SB
    rw [hI 114 0 (by omega), hT 1033 0 (by omega)]
    exact hB
  · rw [hT 1000 0 (by omega), es3, sI_s]
theorem link_bad {n : Nat} {k1 : Int} {a1 : UInt64} {a3 : Int32} {σ τ : ST} (p1 : bd k1 k1 a1) (hv : ¬ (1 ≤ k1 ∧ k1 ≤ 80000 ∧ ¬ a3 < 1 ∧ a3 ≤ 1000000)) : (∀ (K : ST → Prop) (KX : String → ST → Prop), KX "java/lang/IllegalArgumentException" σ → wp_X8_link n σ a1 a3 K KX) ∧ (∀ K : ST → Prop, K (upI τ 1000 0 1) → wp_X9_link τ a1 a3 K) := by
  refine ⟨fun K KX hK => ?_, fun K hK => ?_⟩
  · refine ⟨fun _ => hK, fun q1 => ⟨fun q2 => ⟨fun _ => hK, fun q3 => ⟨fun q4 => absurd ?_ hv, fun _ => hK⟩⟩, fun _ => hK⟩⟩
    rw [e_lt p1 bd_e] at q1
    rw [e_le p1 bd_10000] at q2
    exact ⟨by omega, q2, q3, q4⟩
  · have bad : wp_X9_link_J30 a1 a3 K (wp_X9_link_J31 a1 a3 K) τ := by
      unfold wp_X9_link_J30 wp_X9_link_J31 wp_X9_link_J44
      exact ⟨fun _ => ref1 (by decide) ⟨fun w => absurd w z10, fun _ => hK⟩, fun w => absurd rfl w⟩
    unfold wp_X9_link
    refine ⟨fun _ => bad, fun q1 => ⟨fun _ => bad, fun q2 => ?_⟩⟩
    refine ⟨fun _ => ⟨fun _ => bad, fun w => absurd rfl w⟩, fun q3 => ⟨fun _ => ⟨fun _ => bad, fun w => absurd rfl w⟩, fun q4 => absurd ?_ hv⟩⟩
    rw [e_lt p1 bd_e] at q1
    rw [e_gt p1 bd_10000] at q2
    exact ⟨by omega, by omega, q3, Int32.not_lt.mp q4⟩
theorem case3_ok {xs : Nat → Int32} {L n now : Nat} {i : Int32} {o : Nat → Int64} {d : Nat → UInt64} {qs : Nat → List Nat} {rd : List Nat} {σ τ : ST} (h : Sim n now qs rd none σ τ) (h1 : vp_in (i + 1) L) (h2 : vp_in (i + 2) L) (Kn : Nat → (Nat → Int64) → (Nat → UInt64) → ST → ST → Prop) (hK : ∀ o' d' σ' τ', Sim n now qs rd none σ' τ' → Kn n o' d' σ' τ') : wp_case3 xs L i n o d σ τ Kn := by
  unfold wp_case3
  have p1 := bd_m (x := xs (i + 1).toNatClampNeg)
  generalize FP.dmul (FP.i2d (xs (i + 1).toNatClampNeg)) 4593671619917905920 = a1 at p1 ⊢
  generalize xs (i + 2).toNatClampNeg = a3
  refine ⟨h1, p1.n64, h2, ?_⟩
  unfold wp_L_link
  by_cases hv : 1 ≤ (xs (i + 1).toNatClampNeg).toInt ∧ (xs (i + 1).toNatClampNeg).toInt ≤ 80000 ∧ ¬ a3 < 1 ∧ a3 ≤ 1000000
  · obtain ⟨v1, v2, v3, v4⟩ := hv
    obtain ⟨l, hl1, hl, rfl⟩ := rng_of 1 1000000 (by decide) (by decide) v3 v4
    obtain ⟨σ', τ', kc, km, hS, ht⟩ := link_ok h p1 v1 v2 hl1 hl
    exact kc _ _ ⟨h1, p1.n64, h2, km _ (tlv ht (hK _ _ _ _ hS))⟩
  · obtain ⟨kc, km⟩ := link_bad (n := n) (σ := σ) (τ := τ) p1 hv
    exact kc _ _ ⟨rfl, h1, p1.n64, h2, km _ (tlv s1000 (hK _ _ _ _ (thr_sim 1 h)))⟩
/-- coin, both sides: th is 0, 1 or 2 -/
theorem coin_all {n now : Nat} {k1 : Int} {a1 : UInt64} {qs : Nat → List Nat} {rd : List Nat} {σ τ : ST} (h : Sim n now qs rd none σ τ) (p1 : bd k1 k1 a1) : ∃ (th v v2 : Int32) (σ' τ' : ST), (∀ (o : Nat → Int64) (d : Nat → UInt64) (K : Int32 → (Nat → Int64) → (Nat → UInt64) → ST → Prop), (th = 0 → K 0 (vp_updL o (0 : Int32).toNatClampNeg v.toInt64) d σ') → (th = 1 → K 1 o d σ') → (th = 2 → K 2 o d σ') → wp_L_coin n o d σ a1 K) ∧ (∀ K : Int32 → ST → Prop, (th = 0 → K v τ') → (¬ th = 0 → K v2 τ') → wp_X9_coin τ a1 K) ∧ Sim n now qs rd none σ' τ' ∧ sI τ' 1000 0 = th ∧ (th = 0 ∨ th = 1 ∨ th = 2) := by
  have n20 : ¬ (2 : Int32) = 0 := by decide
  by_cases hv : 0 ≤ k1 ∧ k1 < 8
  · obtain ⟨v1, v2⟩ := hv
    have c1 : ¬ (Op.cmpValue (FP.dcmp a1 FP.dconst0) .l) < 0 := fun w => by have := (e_lt p1 bd_0).mp w; omega
    have c2 : (Op.cmpValue (FP.dcmp a1 FP.dconst1) .g) < 0 := (e_lt p1 bd_1).mpr v2
    obtain ⟨hQ, hW, hS, hC, hK, hF, hB, hR, hM, hRQ, hL, hRF, hCV, hDV, hMV, hn⟩ := id h
    obtain ⟨u, c, g1, g2, g3, g4, g5, g6⟩ := id hCV
    have hwait : sI σ 1 0 - sI σ 2 0 = nI c := by rw [g1, g2, pk_sub (by omega), Nat.add_sub_cancel_left]
    by_cases hc : c = 64
    · refine ⟨2, 0, 0, σ, upI τ 1000 0 2, fun o d K _ _ k2 => ?_, fun K _ k1 => ?_, thr_sim 2 h, s1000, Or.inr (Or.inr rfl)⟩
      · unfold wp_L_coin wp_X8_coin wp_X0_isFull wp_X0_waiting
        rw [hwait, hc]
        exact ⟨fun w => absurd w c1, fun _ => ⟨fun _ => ⟨fun w => absurd w (by decide), fun _ => ⟨fun w => absurd w z10, fun _ => Or.inr ⟨rfl, k2 rfl⟩⟩⟩, fun w => absurd c2 w⟩⟩
      · unfold wp_X9_coin
        rw [g3, hc]
        refine ⟨fun w => absurd w c1, fun _ => ⟨fun _ => ⟨fun w => absurd rfl w, fun _ => ?_⟩, fun w => absurd c2 w⟩⟩
        unfold wp_X9_coin_J31
        exact ref1 (by decide) ⟨fun w => absurd w z10, fun _ => k1 n20⟩
    · obtain ⟨s3, es3⟩ : ∃ z, z = upI τ 1000 0 0 := ⟨_, rfl⟩
      have h0 := thr_sim 0 h
      rw [← es3] at h0
      obtain ⟨hQ, hW, hS, hC, hK, hF, hB, hR, hM, hRQ, hL, hRF, hCV, hDV, hMV, hn⟩ := h0
      have t34 : sI s3 1034 0 = nI c := by rw [es3, n1000 1034 0 (by omega)]; exact g3
      obtain ⟨σ', eσ⟩ : ∃ z, z = upI (upD σ 0 ((u + c) % 64) a1) 1 0 (nI (u + c + 1)) := ⟨_, rfl⟩
      obtain ⟨τ', eτ⟩ : ∃ z, z = upI (upD s3 1035 c a1) 1034 0 (nI (c + 1)) := ⟨_, rfl⟩
      have hI : ∀ f k, f ≠ 1 → sI σ' f k = sI σ f k := fun f k g => by rw [eσ, sI_upI, if_neg (fun w => g w.1), sI_upD]
      have hD : ∀ f k, ¬ (f = 0 ∧ k = (u + c) % 64) → sD σ' f k = sD σ f k := fun f k g => by rw [eσ, sD_upI, sD_upD, if_neg g]
      have hT : ∀ f k, f ≠ 1034 → sI τ' f k = sI s3 f k := fun f k g => by rw [eτ, sI_upI, if_neg (fun w => g w.1), sI_upD]
      have hTD : ∀ f k, ¬ (f = 1035 ∧ k = c) → sD τ' f k = sD s3 f k := fun f k g => by rw [eτ, sD_upI, sD_upD, if_neg g]
      have i1 : sI σ' 1 0 = nI (u + c + 1) := by rw [eσ, sI_s]
      have i2 : sI σ' 2 0 = nI u := by rw [hI 2 0 (by omega)]; exact g1
      have j34 : sI τ' 1034 0 = nI (c + 1) := by rw [eτ, sI_s]
      have hSim : Sim n now qs rd none σ' τ' := by
        refine ⟨hQ.congr hW.len (fun f k _ => by rw [eσ]; rfl) (fun p _ => by rw [eσ]; rfl) (fun f p hf _ => hI f p (by omega)) (fun f j hf => hI f j (by omega)) (fun k => hT 1023 k (by omega)) (fun f k hf => hT f k (by omega)), hW.congr (fun f hf => hI f 0 (by omega)) (fun p _ => hI 82 p (by omega)), hS.congr (fun f hf => hI f 0 (by omega)) (fun f hf => hD f 0 (by omega)) (fun f hf => hT f 0 (by omega)) (fun f hf => hTD f 0 (by omega)), fun j hj => (hC j hj).congr (fun f hf => hI f j (by omega)) (fun k _ => hT _ _ (by omega)), hK.congr (fun f j hf => hI f j (by omega)) (fun f j hf => hT f j (by omega)), ?_, ?_, hR.congr (by rw [eσ]; rfl) (by rw [eσ]; rfl) (fun _ => by rw [eσ]; rfl), hM.congr (hT 1030 0 (by omega)) (fun k => hT 1031 k (by omega)), hRQ, hL.congr (hI 65 0 (by omega)) (hT 1036 0 (by omega)) (fun k => hT 1037 k (by omega)) (fun _ => by rw [eσ]; rfl) (fun _ => by rw [eσ]; rfl) (fun f p hf _ _ => hI f p (by omega)) (fun _ w => w) (Nat.le_refl _), ⟨fun k p hk => hRF.1 k p (by rw [eσ] at hk; exact hk), fun k p hk => hRF.2 k p (by rw [eσ] at hk; exact hk)⟩, ⟨u, c + 1, i2, i1, j34, by omega, by omega, fun k hk => ?_⟩, fun j hj => (hDV j hj).congr (fun f hf => hI f j (by omega)) (fun f hf => hD f j (by omega)) (fun f hf => hT f j (by omega)) (fun f hf => hTD f j (by omega)), fun j hj => (hMV j hj).congr (fun f hf => hI f j (by omega)) (fun f hf => hD f j (by omega)) (fun f hf => hT f j (by omega)) (fun f hf => hTD f j (by omega)), hn⟩
        · intro j hj
          unfold SF1
          rw [hI 38 j (by omega), hI 114 0 (by omega), hT 1032 j (by omega)]
          exact hF j hj
        · unfold SB
          rw [hI 114 0 (by omega), hT 1033 0 (by omega)]
          exact hB
        · by_cases e : k = c
          · subst e
            rw [eσ, sD_upI, sD_upD, if_pos ⟨rfl, rfl⟩, eτ, sD_upI, sD_upD, if_pos ⟨rfl, rfl⟩]
          · rw [hD 0 _ (by omega), hTD 1035 k (by omega), g6 k (by omega), es3]
            rfl
      refine ⟨0, nI (c + 1), 0, σ', τ', fun o d K k0 _ _ => ?_, fun K k0 _ => ?_, hSim, by rw [hT 1000 0 (by omega), es3, sI_s], Or.inl rfl⟩
      · unfold wp_L_coin wp_X8_coin wp_X0_isFull wp_X0_waiting
        rw [hwait]
        refine ⟨fun w => absurd w c1, fun _ => ⟨fun _ => ⟨fun _ => ⟨fun _ => ?_, fun w => absurd rfl w⟩, fun w => absurd (nI_lt (b := 64) (a := c) (by omega) (by decide)) w⟩, fun w => absurd c2 w⟩⟩
        unfold wp_X0_add wp_X0_place
        rw [g2, and63]
        have hm : (u + c) % 64 < 64 := Nat.mod_lt _ (by decide)
        refine ⟨vp_in_nI hm (by decide), fun s4 e4 s5 e5 => ?_⟩
        rw [nI_clamp (by omega)] at e4
        have q1 : sI s4 1 0 + 1 = nI (u + c + 1) := by rw [e4, sI_upD, g2, nI_1]
        have es5 : s5 = σ' := by rw [e5, q1, e4, eσ]
        rw [es5, i1, i2, pk_sub (by omega), show u + c + 1 - u = c + 1 by omega]
        exact k0 rfl
      · unfold wp_X9_coin
        rw [g3]
        refine ⟨fun w => absurd w c1, fun _ => ⟨fun _ => ⟨fun _ => ?_, fun w => absurd ((nI_eq (a := c) (b := 64) (by omega) (by decide)).mp w) hc⟩, fun w => absurd c2 w⟩⟩
        unfold wp_X9_coin_J31
        refine ref0 ⟨fun _ => ?_, fun w => absurd rfl w⟩
        rw [← es3, t34, nI_clamp (by omega)]
        refine ⟨vp_in_nI (by omega) (by decide), fun s4 e4 s5 e5 => ?_⟩
        have q1 : sI s4 1034 0 + 1 = nI (c + 1) := by rw [e4, sI_upD, t34, nI_1]
        have es5 : s5 = τ' := by rw [e5, q1, e4, eτ]
        rw [es5, j34]
        exact k0 rfl
  · refine ⟨1, 0, 0, σ, upI τ 1000 0 1, fun o d K _ k1 _ => ?_, fun K _ k1 => ?_, thr_sim 1 h, s1000, Or.inr (Or.inl rfl)⟩
    · unfold wp_L_coin wp_X8_coin
      refine ⟨fun _ => Or.inl ⟨rfl, k1 rfl⟩, fun q1 => ⟨fun q2 => absurd ?_ hv, fun _ => Or.inl ⟨rfl, k1 rfl⟩⟩⟩
      rw [e_lt p1 bd_0] at q1
      rw [e_lt p1 bd_1] at q2
      omega
    · have bad : wp_X9_coin_J13 a1 K (wp_X9_coin_J31 a1 K) τ := by
        unfold wp_X9_coin_J13 wp_X9_coin_J31
        exact ref1 (by decide) ⟨fun w => absurd w z10, fun _ => k1 z10⟩
      unfold wp_X9_coin
      refine ⟨fun _ => bad, fun q1 => ⟨fun q2 => absurd ?_ hv, fun _ => bad⟩⟩
      rw [e_lt p1 bd_0] at q1
      rw [e_lt p1 bd_1] at q2
      omega
theorem case4_ok {xs : Nat → Int32} {L n now : Nat} {i : Int32} {o : Nat → Int64} {d : Nat → UInt64} {qs : Nat → List Nat} {rd : List Nat} {σ τ : ST} (h : Sim n now qs rd none σ τ) (h1 : vp_in (i + 1) L) (Kn : Nat → (Nat → Int64) → (Nat → UInt64) → ST → ST → Prop) (hK : ∀ o' d' σ' τ', Sim n now qs rd none σ' τ' → Kn n o' d' σ' τ') : wp_case4 xs L i n o d σ τ Kn := by
  unfold wp_case4
  have p1 := bd_m (x := xs (i + 1).toNatClampNeg)
  generalize FP.dmul (FP.i2d (xs (i + 1).toNatClampNeg)) 4593671619917905920 = a1 at p1 ⊢
  refine ⟨h1, p1.n64, ?_⟩
  obtain ⟨th, v, v2, σ', τ', kc, km, hS, ht, hth⟩ := coin_all h p1
  refine kc _ _ _ (fun e => ⟨h1, p1.n64, km _ (fun _ => ?_) (fun w => absurd e w)⟩) (fun e => ⟨h1, p1.n64, km _ (fun w => ?_) (fun _ => ?_)⟩) (fun e => ⟨h1, p1.n64, km _ (fun w => ?_) (fun _ => ?_)⟩)
  · exact tl_ok (ht.trans e) (hK _ _ _ _ hS)
  · exact absurd (e.symm.trans w) (by decide)
  · exact tl_ref (by decide) (ht.trans e) (hK _ _ _ _ hS)
  · exact absurd (e.symm.trans w) (by decide)
  · exact tl_ref (by decide) (ht.trans e) (hK _ _ _ _ hS)
