/-! the tellings -/
theorem e_lt {k l : Int} {a b : UInt64} {op : CmpOp} (ha : bd k k a) (hb : bd l l b) : (Op.cmpValue (FP.dcmp a b) op) < 0 ↔ k < l := by
  have up := U8_pos
  rw [c_lt ha.1 hb.1, bd_eq ha, bd_eq hb]
  exact ⟨fun h => Int.lt_of_mul_lt_mul_right h (by omega), fun h => Int.mul_lt_mul_of_pos_right h (by omega)⟩
theorem e_le {k l : Int} {a b : UInt64} {op : CmpOp} (ha : bd k k a) (hb : bd l l b) : (Op.cmpValue (FP.dcmp a b) op) ≤ 0 ↔ k ≤ l := by
  have up := U8_pos
  rw [c_le ha.1 hb.1, bd_eq ha, bd_eq hb]
  exact ⟨fun h => Int.le_of_mul_le_mul_right h (by omega), fun h => Int.mul_le_mul_of_nonneg_right h (by omega)⟩
theorem e_ge {k l : Int} {a b : UInt64} {op : CmpOp} (ha : bd k k a) (hb : bd l l b) : 0 ≤ (Op.cmpValue (FP.dcmp a b) op) ↔ l ≤ k := by
  have up := U8_pos
  rw [c_ge ha.1 hb.1, bd_eq ha, bd_eq hb]
  exact ⟨fun h => Int.le_of_mul_le_mul_right h (by omega), fun h => Int.mul_le_mul_of_nonneg_right h (by omega)⟩
theorem e_gt {k l : Int} {a b : UInt64} {op : CmpOp} (ha : bd k k a) (hb : bd l l b) : 0 < (Op.cmpValue (FP.dcmp a b) op) ↔ l < k := by
  have up := U8_pos
  rw [c_gt ha.1 hb.1, bd_eq ha, bd_eq hb]
  exact ⟨fun h => Int.lt_of_mul_lt_mul_right h (by omega), fun h => Int.mul_lt_mul_of_pos_right h (by omega)⟩
/-- a class's words changed, both sides -/
theorem word_sim {n now b : Nat} {qs : Nat → List Nat} {rd : List Nat} {X : Option Nat} {σ τ σ' τ' : ST} (h : Sim n now qs rd X σ τ) (fR : ∀ f k, sR σ' f k = sR σ f k) (fI : ∀ f k, ¬ (((16 ≤ f ∧ f ≤ 23) ∨ f = 36 ∨ f = 37 ∨ (48 ≤ f ∧ f ≤ 54)) ∧ k = b) → sI σ' f k = sI σ f k) (fD : ∀ f k, ¬ (((16 ≤ f ∧ f ≤ 23) ∨ (48 ≤ f ∧ f ≤ 54)) ∧ k = b) → sD σ' f k = sD σ f k) (fT : ∀ f k, ¬ ((1006 ≤ f ∧ f ≤ 1022) ∧ k = b) → sI τ' f k = sI τ f k) (fTD : ∀ f k, ¬ ((1006 ≤ f ∧ f ≤ 1022) ∧ k = b) → sD τ' f k = sD τ f k) (hk : sI σ' 36 b = sI τ' 1006 b ∧ sI σ' 37 b = sI τ' 1007 b ∧ ∃ q : Nat, 1 ≤ q ∧ q ≤ 3000 ∧ sI σ' 37 b = nI q) (hd : DV (n - tot (fun j => (qs j).length)) σ' τ' b) (hm : MV now σ' τ' b) : Sim n now qs rd X σ' τ' := by
  obtain ⟨hQ, hW, hS, hC, hK, hF, hB, hR, hM, hRQ, hL, hRF, hCV, hDV, hMV, hn⟩ := h
  refine ⟨hQ.congr hW.len (fun f k _ => fR f k) (fun p _ => fR 87 p) (fun f p hf _ => fI f p (by omega)) (fun f j hf => fI f j (by omega)) (fun k => fT 1023 k (by omega)) (fun f k hf => fT f k (by omega)), hW.congr (fun f hf => fI f 0 (by omega)) (fun p _ => fI 82 p (by omega)), hS.congr (fun f hf => fI f 0 (by omega)) (fun f hf => fD f 0 (by omega)) (fun f hf => fT f 0 (by omega)) (fun f hf => fTD f 0 (by omega)), fun j hj => (hC j hj).congr (fun f hf => fI f j (by omega)) (fun k _ => fT _ _ (by omega)), ?_, ?_, ?_, hR.congr (fR 112 0) (fR 113 0) (fun i => fR 39 i), hM.congr (fT 1030 0 (by omega)) (fun k => fT 1031 k (by omega)), hRQ, hL.congr (fI 65 0 (by omega)) (fT 1036 0 (by omega)) (fun k => fT 1037 k (by omega)) (fun k => fR 64 k) (fun k => fR 81 k) (fun f p hf _ _ => fI f p (by omega)) (fun _ w => w) (Nat.le_refl _), ⟨fun k p hk => hRF.1 k p (by rw [← fR]; exact hk), fun k p hk => hRF.2 k p (by rw [← fR]; exact hk)⟩, hCV.congr (fI 1 0 (by omega)) (fI 2 0 (by omega)) (fun k => fD 0 k (by omega)) (fT 1034 0 (by omega)) (fun k => fTD 1035 k (by omega)), ?_, ?_, hn⟩
  · intro j hj
    by_cases e : j = b
    · subst e
      refine ⟨?_, hk⟩
      rw [fI 32 j (by omega)]
      exact (hK j hj).1
    · rw [fI 32 j (by omega), fI 36 j (by omega), fI 37 j (by omega), fT 1006 j (by omega), fT 1007 j (by omega)]
      exact hK j hj
  · intro j hj
    unfold SF1
    rw [fI 38 j (by omega), fI 114 0 (by omega), fT 1032 j (by omega)]
    exact hF j hj
  · unfold SB
    rw [fI 114 0 (by omega), fT 1033 0 (by omega)]
    exact hB
  · intro j hj
    by_cases e : j = b
    · rw [e]; exact hd
    · exact (hDV j hj).congr (fun f hf => fI f j (by omega)) (fun f hf => fD f j (by omega)) (fun f hf => fT f j (by omega)) (fun f hf => fTD f j (by omega))
  · intro j hj
    by_cases e : j = b
    · rw [e]; exact hm
    · exact (hMV j hj).congr (fun f hf => fI f j (by omega)) (fun f hf => fD f j (by omega)) (fun f hf => fT f j (by omega)) (fun f hf => fTD f j (by omega))
/-- kind, both sides -/
theorem kind_ok {n now b q : Nat} {a2 : Int32} {qs : Nat → List Nat} {rd : List Nat} {σ τ : ST} (h : Sim n now qs rd none σ τ) (hb : b < 6) (ha : ¬ a2 < 0) (ha2 : a2 ≤ 2) (hq1 : 1 ≤ q) (hq : q ≤ 3000) :
    ∃ σ' τ', (∀ (K : ST → Prop) (KX : String → ST → Prop), K σ' → wp_X8_kind n σ (nI b) a2 (nI q) K KX) ∧ (∀ K : ST → Prop, K τ' → wp_X9_kind τ (nI b) a2 (nI q) K) ∧ Sim n now qs rd none σ' τ' ∧ sI τ' 1000 0 = 0 := by
  have hin : vp_in (nI b) 6 := vp_in_nI hb (by decide)
  have hc : (nI b).toNatClampNeg = b := nI_clamp (by omega)
  obtain ⟨s3, es3⟩ : ∃ z, z = upI τ 1000 0 0 := ⟨_, rfl⟩
  have h0 := thr_sim 0 h
  rw [← es3] at h0
  have h132 : sI σ 132 0 = nI now := h0.2.2.1.1
  have h1001 : sI s3 1001 0 = nI now := h0.2.2.1.2.1
  have hDVb := h0.2.2.2.2.2.2.2.2.2.2.2.2.2.1 b hb
  have hMVb := h0.2.2.2.2.2.2.2.2.2.2.2.2.2.2.1 b hb
  obtain ⟨σ', eσ⟩ : ∃ z, z = upI (upI (upI (upI (upI (upI (upD (upI (upI σ 36 b a2) 37 b (nI q)) 52 b FP.dconst0) 53 b (-1)) 54 b (nI now)) 18 b 0) 20 b 0) 22 b 0) 23 b 0 := ⟨_, rfl⟩
  obtain ⟨τ', eτ⟩ : ∃ z, z = upI (upI (upD (upI (upI (upI (upI (upD (upI (upI s3 1006 b a2) 1007 b (nI q)) 1012 b FP.dconst0) 1013 b (-1)) 1014 b (nI now)) 1018 b 0) 1019 b 0) 1020 b FP.dconst0) 1021 b 0) 1022 b 0 := ⟨_, rfl⟩
  have fI : ∀ f k, ¬ ((f = 18 ∨ f = 20 ∨ f = 22 ∨ f = 23 ∨ f = 36 ∨ f = 37 ∨ f = 53 ∨ f = 54) ∧ k = b) → sI σ' f k = sI σ f k := fun f k g => by
    rw [eσ]
    simp only [sI_upI, sI_upD]
    rw [if_neg (by omega), if_neg (by omega), if_neg (by omega), if_neg (by omega), if_neg (by omega), if_neg (by omega), if_neg (by omega), if_neg (by omega)]
  have fD : ∀ f k, ¬ (f = 52 ∧ k = b) → sD σ' f k = sD σ f k := fun f k g => by
    rw [eσ]
    simp only [sD_upI, sD_upD]
    rw [if_neg g]
  have fT : ∀ f k, ¬ ((f = 1006 ∨ f = 1007 ∨ f = 1013 ∨ f = 1014 ∨ f = 1018 ∨ f = 1019 ∨ f = 1021 ∨ f = 1022) ∧ k = b) → sI τ' f k = sI s3 f k := fun f k g => by
    rw [eτ]
    simp only [sI_upI, sI_upD]
    rw [if_neg (by omega), if_neg (by omega), if_neg (by omega), if_neg (by omega), if_neg (by omega), if_neg (by omega), if_neg (by omega), if_neg (by omega)]
  have fTD : ∀ f k, ¬ ((f = 1012 ∨ f = 1020) ∧ k = b) → sD τ' f k = sD s3 f k := fun f k g => by
    rw [eτ]
    simp only [sD_upI, sD_upD]
    rw [if_neg (by omega), if_neg (by omega)]
  have i18 : sI σ' 18 b = 0 := by rw [eσ]; simp [sI_upI, sI_upD]
  have i20 : sI σ' 20 b = 0 := by rw [eσ]; simp [sI_upI, sI_upD]
  have i22 : sI σ' 22 b = 0 := by rw [eσ]; simp [sI_upI, sI_upD]
  have i23 : sI σ' 23 b = 0 := by rw [eσ]; simp [sI_upI, sI_upD]
  have i36 : sI σ' 36 b = a2 := by rw [eσ]; simp [sI_upI, sI_upD]
  have i37 : sI σ' 37 b = nI q := by rw [eσ]; simp [sI_upI, sI_upD]
  have i53 : sI σ' 53 b = -1 := by rw [eσ]; simp [sI_upI, sI_upD]
  have i54 : sI σ' 54 b = nI now := by rw [eσ]; simp [sI_upI, sI_upD]
  have d52 : sD σ' 52 b = FP.dconst0 := by rw [eσ]; simp [sD_upI, sD_upD]
  have t06 : sI τ' 1006 b = a2 := by rw [eτ]; simp [sI_upI, sI_upD]
  have t07 : sI τ' 1007 b = nI q := by rw [eτ]; simp [sI_upI, sI_upD]
  have t13 : sI τ' 1013 b = -1 := by rw [eτ]; simp [sI_upI, sI_upD]
  have t14 : sI τ' 1014 b = nI now := by rw [eτ]; simp [sI_upI, sI_upD]
  have t18 : sI τ' 1018 b = 0 := by rw [eτ]; simp [sI_upI, sI_upD]
  have t19 : sI τ' 1019 b = 0 := by rw [eτ]; simp [sI_upI, sI_upD]
  have t21 : sI τ' 1021 b = 0 := by rw [eτ]; simp [sI_upI, sI_upD]
  have t22 : sI τ' 1022 b = 0 := by rw [eτ]; simp [sI_upI, sI_upD]
  have t12 : sD τ' 1012 b = FP.dconst0 := by rw [eτ]; simp [sD_upI, sD_upD]
  refine ⟨σ', τ', fun K KX hK => ?_, fun K hK => ?_, word_sim (b := b) h0 (fun f k => by rw [eσ]; rfl) (fun f k g => fI f k (by omega)) (fun f k g => fD f k (by omega)) (fun f k g => fT f k (by omega)) (fun f k g => fTD f k (by omega)) ⟨by rw [i36, t06], by rw [i37, t07], q, hq1, hq, i37⟩ ?_ ?_, by rw [fT 1000 0 (by omega), es3, sI_s]⟩
  · unfold wp_X8_kind
    refine fl_ok hb ⟨fun w => absurd w ha, fun _ => ⟨fun _ => ⟨fun w => absurd w (nI_nlt (b := 1) hq1 (by omega)), fun _ => ⟨fun _ => ⟨b, rfl, hb, fun s8 e8 s9 e9 => ⟨hb, hb, fun s2 e2 s3 e3 s4 e4 => ⟨hb, hb, fun s5 e5 s6 e6 s7 e7 sz ez => ?_⟩⟩⟩, fun w => absurd (nI_le (b := 3000) hq (by decide)) w⟩⟩, fun w => absurd ha2 w⟩⟩
    have q132 : sI s9 132 0 = nI now := by rw [e9, sI_upI, if_neg (by omega), e8, sI_upI, if_neg (by omega)]; exact h132
    have : sz = σ' := by rw [ez, e7, e6, e5, e4, q132, e3, e2, e9, e8, eσ]
    rw [this]
    exact hK
  · unfold wp_X9_kind
    refine isIn_c hb ⟨fun w => absurd w z10, fun _ => isIn_t ha (Int32.not_lt.mpr ha2) ⟨fun w => absurd w z10, fun _ => isIn_t (nI_nlt (b := 1) hq1 (by omega)) (nI_nlt (b := q) (a := 3000) hq (by decide)) ⟨fun w => absurd w z10, fun _ => ?_⟩⟩⟩
    unfold wp_X9_kind_J35
    rw [hc]
    refine ref0 ⟨fun _ => ?_, fun w => absurd rfl w⟩
    rw [← es3]
    refine ⟨hin, fun s6 e6 => ⟨hin, fun s8 e8 => ⟨hin, fun s10 e10 => ⟨hin, fun s12 e12 => ⟨hin, fun s14 e14 => ⟨hin, fun s16 e16 => ⟨hin, fun s18 e18 => ⟨hin, fun s20 e20 => ⟨hin, fun s22 e22 => ⟨hin, fun s24 e24 => ?_⟩⟩⟩⟩⟩⟩⟩⟩⟩⟩
    have q01 : sI s12 1001 0 = nI now := by
      rw [e12, sI_upI, if_neg (by omega), e10, sI_upD, e8, sI_upI, if_neg (by omega), e6, sI_upI, if_neg (by omega)]
      exact h1001
    have : s24 = τ' := by rw [e24, e22, e20, e18, e16, e14, q01, e12, e10, e8, e6, eτ]
    rw [this]
    exact hK
  · obtain ⟨⟨a1, a2, a3, a4, a5, a6, a7⟩, D2, D3, D4, D5, c0, e0, D6, D7, D8, D9⟩ := hDVb
    unfold DV
    rw [i18, i20, i22, i23, t18, t19, t21, t22, fD 16 b (by omega), fD 17 b (by omega), fD 19 b (by omega), fD 21 b (by omega), fTD 1015 b (by omega), fTD 1016 b (by omega), fTD 1017 b (by omega)]
    exact ⟨⟨a1, a2, a3, rfl, rfl, rfl, rfl⟩, Or.inr ⟨rfl, rfl, rfl⟩, D3, D4, D5, 0, 0, rfl, rfl, Nat.zero_le _, Nat.zero_le _⟩
  · obtain ⟨⟨a1, a2, a3, a4, a5, a6, a7⟩, D2, D3, D4, D5, D6, D7, e, D8, D9⟩ := hMVb
    unfold MV
    rw [i53, i54, d52, t13, t14, t12, fD 48 b (by omega), fD 49 b (by omega), fD 50 b (by omega), fD 51 b (by omega), fTD 1008 b (by omega), fTD 1009 b (by omega), fTD 1010 b (by omega), fTD 1011 b (by omega)]
    exact ⟨⟨a1, a2, a3, a4, rfl, rfl, rfl⟩, D2, D3, D4, D5, D6, bd_0.weaken (by decide) (by decide), now, rfl, Nat.le_refl _⟩
theorem kind_bad {n : Nat} {a1 a2 a3 : Int32} {σ τ : ST} (hv : ¬ ((¬ a1 < 0 ∧ ¬ 6 ≤ a1) ∧ (¬ a2 < 0 ∧ a2 ≤ 2) ∧ (¬ a3 < 1 ∧ a3 ≤ 3000))) : (∀ (K : ST → Prop) (KX : String → ST → Prop), KX "java/lang/IllegalArgumentException" σ → wp_X8_kind n σ a1 a2 a3 K KX) ∧ (∀ K : ST → Prop, K (upI τ 1000 0 1) → wp_X9_kind τ a1 a2 a3 K) := by
  have bad : ∀ K : ST → Prop, K (upI τ 1000 0 1) → wp_X9_kind_J34 a1 a2 a3 K (wp_X9_kind_J35 a1 a2 a3 K) τ := fun K hK => by
    unfold wp_X9_kind_J34 wp_X9_kind_J35
    exact ref1 (by decide) ⟨fun w => absurd w z10, fun _ => hK⟩
  by_cases h1 : a1 < 0 ∨ 6 ≤ a1
  · refine ⟨fun K KX hK => fl_bad h1 hK, fun K hK => ?_⟩
    unfold wp_X9_kind
    exact isIn_f (fl_bad5 h1) ⟨fun _ => bad K hK, fun w => absurd rfl w⟩
  · obtain ⟨b, hb, rfl⟩ := cls_of (fun w => h1 (Or.inl w)) (fun w => h1 (Or.inr w))
    have hg : ¬ ((¬ a2 < 0 ∧ a2 ≤ 2) ∧ (¬ a3 < 1 ∧ a3 ≤ 3000)) := fun w => hv ⟨⟨fun w => h1 (Or.inl w), fun w => h1 (Or.inr w)⟩, w⟩
    refine ⟨fun K KX hK => ?_, fun K hK => ?_⟩
    · unfold wp_X8_kind
      exact fl_ok hb ⟨fun _ => hK, fun q1 => ⟨fun q2 => ⟨fun _ => hK, fun q3 => ⟨fun q4 => absurd ⟨⟨q1, q2⟩, q3, q4⟩ hg, fun _ => hK⟩⟩, fun _ => hK⟩⟩
    · unfold wp_X9_kind
      refine isIn_c hb ⟨fun w => absurd w z10, fun _ => ?_⟩
      refine ⟨fun _ => ⟨fun _ => bad K hK, fun w => absurd rfl w⟩, fun q1 => ⟨fun _ => ⟨fun _ => bad K hK, fun w => absurd rfl w⟩, fun q2 => ⟨fun w => absurd w z10, fun _ => ?_⟩⟩⟩
      refine ⟨fun _ => ⟨fun _ => bad K hK, fun w => absurd rfl w⟩, fun q3 => ⟨fun _ => ⟨fun _ => bad K hK, fun w => absurd rfl w⟩, fun q4 => ?_⟩⟩
      exact absurd ⟨⟨q1, Int32.not_lt.mp q2⟩, q3, Int32.not_lt.mp q4⟩ hg
/-- the law's tail of a call without an answer -/
theorem tlv {th e : Int32} {P : Prop} (ht : th = e) (hP : P) : ((th = e → P) ∧ (¬ (th = e) → False)) := ⟨fun _ => hP, fun w => w ht⟩
theorem case0_ok {xs : Nat → Int32} {L n now : Nat} {i : Int32} {o : Nat → Int64} {d : Nat → UInt64} {qs : Nat → List Nat} {rd : List Nat} {σ τ : ST} (h : Sim n now qs rd none σ τ) (h1 : vp_in (i + 1) L) (h2 : vp_in (i + 2) L) (h3 : vp_in (i + 3) L) (Kn : Nat → (Nat → Int64) → (Nat → UInt64) → ST → ST → Prop) (hK : ∀ o' d' σ' τ', Sim n now qs rd none σ' τ' → Kn n o' d' σ' τ') : wp_case0 xs L i n o d σ τ Kn := by
  unfold wp_case0
  refine ⟨h1, h2, h3, ?_⟩
  unfold wp_L_kind
  generalize xs (i + 1).toNatClampNeg = a1
  generalize xs (i + 2).toNatClampNeg = a2
  generalize xs (i + 3).toNatClampNeg = a3
  by_cases hv : (¬ a1 < 0 ∧ ¬ 6 ≤ a1) ∧ (¬ a2 < 0 ∧ a2 ≤ 2) ∧ (¬ a3 < 1 ∧ a3 ≤ 3000)
  · obtain ⟨⟨g1, g2⟩, ⟨g3, g4⟩, g5, g6⟩ := hv
    obtain ⟨b, hb, rfl⟩ := cls_of g1 g2
    obtain ⟨q, hq1, hq, rfl⟩ := rng_of 1 3000 (by decide) (by decide) g5 g6
    obtain ⟨σ', τ', kc, km, hS, ht⟩ := kind_ok h hb g3 g4 hq1 hq
    exact kc _ _ ⟨h1, h2, h3, km _ (tlv ht (hK _ _ _ _ hS))⟩
  · obtain ⟨kc, km⟩ := kind_bad (n := n) (σ := σ) (τ := τ) hv
    exact kc _ _ ⟨rfl, h1, h2, h3, km _ (tlv s1000 (hK _ _ _ _ (thr_sim 1 h)))⟩
/-- mean, both sides -/
theorem mean_ok {n now b : Nat} {k2 k4 k6 k8 : Int} {a2 a4 a6 a8 : UInt64} {qs : Nat → List Nat} {rd : List Nat} {σ τ : ST} (h : Sim n now qs rd none σ τ) (hb : b < 6) (p2 : bd k2 k2 a2) (p4 : bd k4 k4 a4) (p6 : bd k6 k6 a6) (p8 : bd k8 k8 a8) (hv : 0 ≤ k2 ∧ k2 < k4 ∧ k4 ≤ 8000 ∧ 0 < k6 ∧ k6 ≤ 8 ∧ 0 < k8 ∧ k8 ≤ 8) :
    ∃ σ' τ', (∀ (K : ST → Prop) (KX : String → ST → Prop), K σ' → wp_X8_mean n σ (nI b) a2 a4 a6 a8 K KX) ∧ (∀ K : ST → Prop, K τ' → wp_X9_mean τ (nI b) a2 a4 a6 a8 K) ∧ Sim n now qs rd none σ' τ' ∧ sI τ' 1000 0 = 0 := by
  have hin : vp_in (nI b) 6 := vp_in_nI hb (by decide)
  have hc : (nI b).toNatClampNeg = b := nI_clamp (by omega)
  obtain ⟨v1, v2, v3, v4, v5, v6, v7⟩ := hv
  obtain ⟨s3, es3⟩ : ∃ z, z = upI τ 1000 0 0 := ⟨_, rfl⟩
  have h0 := thr_sim 0 h
  rw [← es3] at h0
  have hDVb := h0.2.2.2.2.2.2.2.2.2.2.2.2.2.1 b hb
  have hMVb := h0.2.2.2.2.2.2.2.2.2.2.2.2.2.2.1 b hb
  have hKb := h0.2.2.2.2.1 b hb
  obtain ⟨σ', eσ⟩ : ∃ z, z = upD (upD (upD (upD σ 48 b a2) 49 b a4) 50 b a6) 51 b a8 := ⟨_, rfl⟩
  obtain ⟨τ', eτ⟩ : ∃ z, z = upD (upD (upD (upD s3 1008 b a2) 1009 b a4) 1010 b a6) 1011 b a8 := ⟨_, rfl⟩
  have fI : ∀ f k, sI σ' f k = sI σ f k := fun f k => by rw [eσ]; rfl
  have fT : ∀ f k, sI τ' f k = sI s3 f k := fun f k => by rw [eτ]; rfl
  have fD : ∀ f k, ¬ ((48 ≤ f ∧ f ≤ 51) ∧ k = b) → sD σ' f k = sD σ f k := fun f k g => by
    rw [eσ]
    simp only [sD_upD]
    rw [if_neg (by omega), if_neg (by omega), if_neg (by omega), if_neg (by omega)]
  have fTD : ∀ f k, ¬ ((1008 ≤ f ∧ f ≤ 1011) ∧ k = b) → sD τ' f k = sD s3 f k := fun f k g => by
    rw [eτ]
    simp only [sD_upD]
    rw [if_neg (by omega), if_neg (by omega), if_neg (by omega), if_neg (by omega)]
  have d48 : sD σ' 48 b = a2 := by rw [eσ]; simp [sD_upD]
  have d49 : sD σ' 49 b = a4 := by rw [eσ]; simp [sD_upD]
  have d50 : sD σ' 50 b = a6 := by rw [eσ]; simp [sD_upD]
  have d51 : sD σ' 51 b = a8 := by rw [eσ]; simp [sD_upD]
  have t08 : sD τ' 1008 b = a2 := by rw [eτ]; simp [sD_upD]
  have t09 : sD τ' 1009 b = a4 := by rw [eτ]; simp [sD_upD]
  have t10 : sD τ' 1010 b = a6 := by rw [eτ]; simp [sD_upD]
  have t11 : sD τ' 1011 b = a8 := by rw [eτ]; simp [sD_upD]
  have c1 : ¬ (Op.cmpValue (FP.dcmp a2 FP.dconst0) .l) < 0 := fun w => by have := (e_lt p2 bd_0).mp w; omega
  have c2 : ¬ 0 ≤ (Op.cmpValue (FP.dcmp a2 a4) .g) := fun w => by have := (e_ge p2 p4).mp w; omega
  have c3 : (Op.cmpValue (FP.dcmp a4 4652007308841189376) .g) ≤ 0 := (e_le p4 bd_1000).mpr v3
  have c3' : ¬ 0 < (Op.cmpValue (FP.dcmp a4 4652007308841189376) .g) := fun w => by have := (e_gt p4 bd_1000).mp w; omega
  have c4 : ¬ (Op.cmpValue (FP.dcmp a6 FP.dconst0) .l) ≤ 0 := fun w => by have := (e_le p6 bd_0).mp w; omega
  have c5 : (Op.cmpValue (FP.dcmp a6 FP.dconst1) .g) ≤ 0 := (e_le p6 bd_1).mpr v5
  have c5' : ¬ 0 < (Op.cmpValue (FP.dcmp a6 FP.dconst1) .g) := fun w => by have := (e_gt p6 bd_1).mp w; omega
  have c6 : ¬ (Op.cmpValue (FP.dcmp a8 FP.dconst0) .l) ≤ 0 := fun w => by have := (e_le p8 bd_0).mp w; omega
  have c7 : (Op.cmpValue (FP.dcmp a8 FP.dconst1) .g) ≤ 0 := (e_le p8 bd_1).mpr v7
  have c7' : ¬ 0 < (Op.cmpValue (FP.dcmp a8 FP.dconst1) .g) := fun w => by have := (e_gt p8 bd_1).mp w; omega
  refine ⟨σ', τ', fun K KX hK => ?_, fun K hK => ?_, word_sim (b := b) h0 (fun f k => by rw [eσ]; rfl) (fun f k _ => fI f k) (fun f k g => fD f k (by omega)) (fun f k _ => fT f k) (fun f k g => fTD f k (by omega)) (by rw [fI, fI, fT, fT]; exact hKb.2) ?_ ?_, by rw [fT, es3, sI_s]⟩
  · unfold wp_X8_mean
    refine fl_ok hb ⟨fun w => absurd w c1, fun _ => ⟨fun w => absurd w c2, fun _ => ⟨fun _ => ⟨fun w => absurd w c4, fun _ => ⟨fun _ => ⟨fun w => absurd w c6, fun _ => ⟨fun _ => ⟨b, rfl, hb, hb, hb, fun s2 e2 s3 e3 s4 e4 s5 e5 => ?_⟩, fun w => absurd c7 w⟩⟩, fun w => absurd c5 w⟩⟩, fun w => absurd c3 w⟩⟩⟩
    have : s5 = σ' := by rw [e5, e4, e3, e2, eσ]
    rw [this]
    exact hK
  · unfold wp_X9_mean
    refine isIn_c hb ⟨fun w => absurd w z10, fun _ => ⟨fun w => absurd w c1, fun _ => ⟨fun w => absurd w c2, fun _ => ⟨fun w => absurd w c3', fun _ => ⟨fun w => absurd w c4, fun _ => ⟨fun w => absurd w c5', fun _ => ⟨fun w => absurd w c6, fun _ => ⟨fun w => absurd w c7', fun _ => ?_⟩⟩⟩⟩⟩⟩⟩⟩
    unfold wp_X9_mean_J64 wp_X9_mean_J77
    rw [hc]
    refine ⟨fun w => absurd w z10, fun _ => ref0 ⟨fun _ => ⟨hin, fun s6 e6 => ⟨hin, fun s8 e8 => ⟨hin, fun s10 e10 => ⟨hin, fun s12 e12 => ?_⟩⟩⟩⟩, fun w => absurd rfl w⟩⟩
    have : s12 = τ' := by rw [e12, e10, e8, e6, ← es3, eτ]
    rw [this]
    exact hK
  · exact hDVb.congr (fun f _ => fI f b) (fun f hf => fD f b (by omega)) (fun f _ => fT f b) (fun f hf => fTD f b (by omega))
  · obtain ⟨⟨a1, a2', a3, a4', a5, a6', a7⟩, D2, D3, D4, D5, D6, D7, e, D8, D9⟩ := hMVb
    unfold MV
    rw [fI, fI, fT, fT, d48, d49, d50, d51, t08, t09, t10, t11, fD 52 b (by omega), fTD 1012 b (by omega)]
    refine ⟨⟨rfl, rfl, rfl, rfl, a5, a6', a7⟩, p2.weaken v1 (by omega), p4.weaken (by omega) v3, ?_, p6.weaken (by omega) v5, p8.weaken (by omega) v7, D7, e, D8, D9⟩
    rw [bd_eq p2, bd_eq p4]
    have hq : (k2 + 1) * (U8 : Int) ≤ k4 * U8 := Int.mul_le_mul_of_nonneg_right (by omega) (by omega)
    rw [Int.add_mul] at hq
    omega
theorem mean_bad {n b : Nat} {k2 k4 k6 k8 : Int} {a2 a4 a6 a8 : UInt64} {σ τ : ST} (hb : b < 6) (p2 : bd k2 k2 a2) (p4 : bd k4 k4 a4) (p6 : bd k6 k6 a6) (p8 : bd k8 k8 a8) (hv : ¬ (0 ≤ k2 ∧ k2 < k4 ∧ k4 ≤ 8000 ∧ 0 < k6 ∧ k6 ≤ 8 ∧ 0 < k8 ∧ k8 ≤ 8)) : (∀ (K : ST → Prop) (KX : String → ST → Prop), KX "java/lang/IllegalArgumentException" σ → wp_X8_mean n σ (nI b) a2 a4 a6 a8 K KX) ∧ (∀ K : ST → Prop, K (upI τ 1000 0 1) → wp_X9_mean τ (nI b) a2 a4 a6 a8 K) := by
  refine ⟨fun K KX hK => ?_, fun K hK => ?_⟩
  · unfold wp_X8_mean
    refine fl_ok hb ⟨fun _ => hK, fun q1 => ⟨fun _ => hK, fun q2 => ⟨fun q3 => ⟨fun _ => hK, fun q4 => ⟨fun q5 => ⟨fun _ => hK, fun q6 => ⟨fun q7 => absurd ?_ hv, fun _ => hK⟩⟩, fun _ => hK⟩⟩, fun _ => hK⟩⟩⟩
    rw [e_lt p2 bd_0] at q1
    rw [e_ge p2 p4] at q2
    rw [e_le p4 bd_1000] at q3
    rw [e_le p6 bd_0] at q4
    rw [e_le p6 bd_1] at q5
    rw [e_le p8 bd_0] at q6
    rw [e_le p8 bd_1] at q7
    omega
  · have bad : wp_X9_mean_J63 (nI b) a2 a4 a6 a8 K (wp_X9_mean_J64 (nI b) a2 a4 a6 a8 K) τ := by
      unfold wp_X9_mean_J63 wp_X9_mean_J64 wp_X9_mean_J77
      exact ⟨fun _ => ref1 (by decide) ⟨fun w => absurd w z10, fun _ => hK⟩, fun w => absurd rfl w⟩
    unfold wp_X9_mean
    refine isIn_c hb ⟨fun w => absurd w z10, fun _ => ⟨fun _ => bad, fun q1 => ⟨fun _ => bad, fun q2 => ⟨fun _ => bad, fun q3 => ⟨fun _ => bad, fun q4 => ⟨fun _ => bad, fun q5 => ⟨fun _ => bad, fun q6 => ⟨fun _ => bad, fun q7 => absurd ?_ hv⟩⟩⟩⟩⟩⟩⟩⟩
    rw [e_lt p2 bd_0] at q1
    rw [e_ge p2 p4] at q2
    rw [e_gt p4 bd_1000] at q3
    rw [e_le p6 bd_0] at q4
    rw [e_gt p6 bd_1] at q5
    rw [e_le p8 bd_0] at q6
    rw [e_gt p8 bd_1] at q7
    omega
theorem mean_bad1 {n : Nat} {a1 : Int32} {a2 a4 a6 a8 : UInt64} {σ τ : ST} (h1 : a1 < 0 ∨ 6 ≤ a1) : (∀ (K : ST → Prop) (KX : String → ST → Prop), KX "java/lang/IllegalArgumentException" σ → wp_X8_mean n σ a1 a2 a4 a6 a8 K KX) ∧ (∀ K : ST → Prop, K (upI τ 1000 0 1) → wp_X9_mean τ a1 a2 a4 a6 a8 K) := by
  refine ⟨fun K KX hK => fl_bad h1 hK, fun K hK => ?_⟩
  unfold wp_X9_mean
  refine isIn_f (fl_bad5 h1) ⟨fun _ => ?_, fun w => absurd rfl w⟩
  unfold wp_X9_mean_J63 wp_X9_mean_J64 wp_X9_mean_J77
  exact ⟨fun _ => ref1 (by decide) ⟨fun w => absurd w z10, fun _ => hK⟩, fun w => absurd rfl w⟩
theorem case1_ok {xs : Nat → Int32} {L n now : Nat} {i : Int32} {o : Nat → Int64} {d : Nat → UInt64} {qs : Nat → List Nat} {rd : List Nat} {σ τ : ST} (h : Sim n now qs rd none σ τ) (h1 : vp_in (i + 1) L) (h2 : vp_in (i + 2) L) (h3 : vp_in (i + 3) L) (h4 : vp_in (i + 4) L) (h5 : vp_in (i + 5) L) (Kn : Nat → (Nat → Int64) → (Nat → UInt64) → ST → ST → Prop) (hK : ∀ o' d' σ' τ', Sim n now qs rd none σ' τ' → Kn n o' d' σ' τ') : wp_case1 xs L i n o d σ τ Kn := by
  unfold wp_case1
  have p2 := bd_m (x := xs (i + 2).toNatClampNeg)
  have p4 := bd_m (x := xs (i + 3).toNatClampNeg)
  have p6 := bd_m (x := xs (i + 4).toNatClampNeg)
  have p8 := bd_m (x := xs (i + 5).toNatClampNeg)
  generalize FP.dmul (FP.i2d (xs (i + 2).toNatClampNeg)) 4593671619917905920 = a2 at p2 ⊢
  generalize FP.dmul (FP.i2d (xs (i + 3).toNatClampNeg)) 4593671619917905920 = a4 at p4 ⊢
  generalize FP.dmul (FP.i2d (xs (i + 4).toNatClampNeg)) 4593671619917905920 = a6 at p6 ⊢
  generalize FP.dmul (FP.i2d (xs (i + 5).toNatClampNeg)) 4593671619917905920 = a8 at p8 ⊢
  generalize xs (i + 1).toNatClampNeg = a1
  refine ⟨h1, h2, p2.n64, h3, p4.n64, h4, p6.n64, h5, p8.n64, ?_⟩
  unfold wp_L_mean
  by_cases hv1 : a1 < 0 ∨ 6 ≤ a1
  · obtain ⟨kc, km⟩ := mean_bad1 (n := n) (a2 := a2) (a4 := a4) (a6 := a6) (a8 := a8) (σ := σ) (τ := τ) hv1
    exact kc _ _ ⟨rfl, h1, h2, p2.n64, h3, p4.n64, h4, p6.n64, h5, p8.n64, km _ (tlv s1000 (hK _ _ _ _ (thr_sim 1 h)))⟩
  · obtain ⟨b, hb, rfl⟩ := cls_of (fun w => hv1 (Or.inl w)) (fun w => hv1 (Or.inr w))
    by_cases hv : 0 ≤ (xs (i + 2).toNatClampNeg).toInt ∧ (xs (i + 2).toNatClampNeg).toInt < (xs (i + 3).toNatClampNeg).toInt ∧ (xs (i + 3).toNatClampNeg).toInt ≤ 8000 ∧ 0 < (xs (i + 4).toNatClampNeg).toInt ∧ (xs (i + 4).toNatClampNeg).toInt ≤ 8 ∧ 0 < (xs (i + 5).toNatClampNeg).toInt ∧ (xs (i + 5).toNatClampNeg).toInt ≤ 8
    · obtain ⟨σ', τ', kc, km, hS, ht⟩ := mean_ok h hb p2 p4 p6 p8 hv
      exact kc _ _ ⟨h1, h2, p2.n64, h3, p4.n64, h4, p6.n64, h5, p8.n64, km _ (tlv ht (hK _ _ _ _ hS))⟩
    · obtain ⟨kc, km⟩ := mean_bad (n := n) (σ := σ) (τ := τ) hb p2 p4 p6 p8 hv
      exact kc _ _ ⟨rfl, h1, h2, p2.n64, h3, p4.n64, h4, p6.n64, h5, p8.n64, km _ (tlv s1000 (hK _ _ _ _ (thr_sim 1 h)))⟩
/-- delay, both sides -/
theorem delay_ok {n now b : Nat} {k2 k4 : Int} {a2 a4 : UInt64} {qs : Nat → List Nat} {rd : List Nat} {σ τ : ST} (h : Sim n now qs rd none σ τ) (hb : b < 6) (p2 : bd k2 k2 a2) (p4 : bd k4 k4 a4) (hv : 0 < k2 ∧ k2 ≤ k4 ∧ k4 ≤ 80000) :
    ∃ σ' τ', (∀ (K : ST → Prop) (KX : String → ST → Prop), K σ' → wp_X8_delay n σ (nI b) a2 a4 K KX) ∧ (∀ K : ST → Prop, K τ' → wp_X9_delay τ (nI b) a2 a4 K) ∧ Sim n now qs rd none σ' τ' ∧ sI τ' 1000 0 = 0 := by
  have hin : vp_in (nI b) 6 := vp_in_nI hb (by decide)
  have hc : (nI b).toNatClampNeg = b := nI_clamp (by omega)
  obtain ⟨v1, v2, v3⟩ := hv
  obtain ⟨s3, es3⟩ : ∃ z, z = upI τ 1000 0 0 := ⟨_, rfl⟩
  have h0 := thr_sim 0 h
  rw [← es3] at h0
  have hDVb := h0.2.2.2.2.2.2.2.2.2.2.2.2.2.1 b hb
  have hMVb := h0.2.2.2.2.2.2.2.2.2.2.2.2.2.2.1 b hb
  have hKb := h0.2.2.2.2.1 b hb
  obtain ⟨σ', eσ⟩ : ∃ z, z = upD (upD σ 16 b a2) 17 b a4 := ⟨_, rfl⟩
  obtain ⟨τ', eτ⟩ : ∃ z, z = upD (upD s3 1015 b a2) 1016 b a4 := ⟨_, rfl⟩
  have fI : ∀ f k, sI σ' f k = sI σ f k := fun f k => by rw [eσ]; rfl
  have fT : ∀ f k, sI τ' f k = sI s3 f k := fun f k => by rw [eτ]; rfl
  have fD : ∀ f k, ¬ ((f = 16 ∨ f = 17) ∧ k = b) → sD σ' f k = sD σ f k := fun f k g => by
    rw [eσ]
    simp only [sD_upD]
    rw [if_neg (by omega), if_neg (by omega)]
  have fTD : ∀ f k, ¬ ((f = 1015 ∨ f = 1016) ∧ k = b) → sD τ' f k = sD s3 f k := fun f k g => by
    rw [eτ]
    simp only [sD_upD]
    rw [if_neg (by omega), if_neg (by omega)]
  have d16 : sD σ' 16 b = a2 := by rw [eσ]; simp [sD_upD]
  have d17 : sD σ' 17 b = a4 := by rw [eσ]; simp [sD_upD]
  have t15 : sD τ' 1015 b = a2 := by rw [eτ]; simp [sD_upD]
  have t16 : sD τ' 1016 b = a4 := by rw [eτ]; simp [sD_upD]
  have c1 : ¬ (Op.cmpValue (FP.dcmp a2 FP.dconst0) .l) ≤ 0 := fun w => by have := (e_le p2 bd_0).mp w; omega
  have c2 : ¬ 0 < (Op.cmpValue (FP.dcmp a2 a4) .g) := fun w => by have := (e_gt p2 p4).mp w; omega
  have c3 : (Op.cmpValue (FP.dcmp a4 4666723172467343360) .g) ≤ 0 := (e_le p4 bd_10000).mpr v3
  have c3' : ¬ 0 < (Op.cmpValue (FP.dcmp a4 4666723172467343360) .g) := fun w => by have := (e_gt p4 bd_10000).mp w; omega
  refine ⟨σ', τ', fun K KX hK => ?_, fun K hK => ?_, word_sim (b := b) h0 (fun f k => by rw [eσ]; rfl) (fun f k _ => fI f k) (fun f k g => fD f k (by omega)) (fun f k _ => fT f k) (fun f k g => fTD f k (by omega)) (by rw [fI, fI, fT, fT]; exact hKb.2) ?_ ?_, by rw [fT, es3, sI_s]⟩
  · unfold wp_X8_delay
    refine fl_ok hb ⟨fun w => absurd w c1, fun _ => ⟨fun w => absurd w c2, fun _ => ⟨fun _ => ⟨b, rfl, hb, hb, hb, fun s2 e2 s3 e3 => ?_⟩, fun w => absurd c3 w⟩⟩⟩
    have : s3 = σ' := by rw [e3, e2, eσ]
    rw [this]
    exact hK
  · unfold wp_X9_delay
    refine isIn_c hb ⟨fun w => absurd w z10, fun _ => ⟨fun w => absurd w c1, fun _ => ⟨fun w => absurd w c2, fun _ => ⟨fun w => absurd w c3', fun _ => ?_⟩⟩⟩⟩
    unfold wp_X9_delay_J36 wp_X9_delay_J49
    rw [hc]
    refine ⟨fun w => absurd w z10, fun _ => ref0 ⟨fun _ => ⟨hin, fun s6 e6 => ⟨hin, fun s8 e8 => ?_⟩⟩, fun w => absurd rfl w⟩⟩
    have : s8 = τ' := by rw [e8, e6, ← es3, eτ]
    rw [this]
    exact hK
  · obtain ⟨⟨a1, a2', a3, a4', a5, a6, a7⟩, D2, D3, D4, D5, c0, e0, D6, D7, D8, D9⟩ := hDVb
    unfold DV
    rw [fI, fI, fI, fI, fT, fT, fT, fT, d16, d17, t15, t16, fD 19 b (by omega), fD 21 b (by omega), fTD 1017 b (by omega), fTD 1020 b (by omega)]
    exact ⟨⟨rfl, rfl, a3, a4', a5, a6, a7⟩, D2, p2.weaken (by omega) (by omega), p4.weaken (by omega) v3, D5, c0, e0, D6, D7, D8, D9⟩
  · exact hMVb.congr (fun f _ => fI f b) (fun f hf => fD f b (by omega)) (fun f _ => fT f b) (fun f hf => fTD f b (by omega))
theorem delay_bad {n b : Nat} {k2 k4 : Int} {a2 a4 : UInt64} {σ τ : ST} (hb : b < 6) (p2 : bd k2 k2 a2) (p4 : bd k4 k4 a4) (hv : ¬ (0 < k2 ∧ k2 ≤ k4 ∧ k4 ≤ 80000)) : (∀ (K : ST → Prop) (KX : String → ST → Prop), KX "java/lang/IllegalArgumentException" σ → wp_X8_delay n σ (nI b) a2 a4 K KX) ∧ (∀ K : ST → Prop, K (upI τ 1000 0 1) → wp_X9_delay τ (nI b) a2 a4 K) := by
  refine ⟨fun K KX hK => ?_, fun K hK => ?_⟩
  · unfold wp_X8_delay
    refine fl_ok hb ⟨fun _ => hK, fun q1 => ⟨fun _ => hK, fun q2 => ⟨fun q3 => absurd ?_ hv, fun _ => hK⟩⟩⟩
    rw [e_le p2 bd_0] at q1
    rw [e_gt p2 p4] at q2
    rw [e_le p4 bd_10000] at q3
    omega
  · have bad : wp_X9_delay_J35 (nI b) a2 a4 K (wp_X9_delay_J36 (nI b) a2 a4 K) τ := by
      unfold wp_X9_delay_J35 wp_X9_delay_J36 wp_X9_delay_J49
      exact ⟨fun _ => ref1 (by decide) ⟨fun w => absurd w z10, fun _ => hK⟩, fun w => absurd rfl w⟩
    unfold wp_X9_delay
    refine isIn_c hb ⟨fun w => absurd w z10, fun _ => ⟨fun _ => bad, fun q1 => ⟨fun _ => bad, fun q2 => ⟨fun _ => bad, fun q3 => absurd ?_ hv⟩⟩⟩⟩
    rw [e_le p2 bd_0] at q1
    rw [e_gt p2 p4] at q2
    rw [e_gt p4 bd_10000] at q3
    omega
theorem delay_bad1 {n : Nat} {a1 : Int32} {a2 a4 : UInt64} {σ τ : ST} (h1 : a1 < 0 ∨ 6 ≤ a1) : (∀ (K : ST → Prop) (KX : String → ST → Prop), KX "java/lang/IllegalArgumentException" σ → wp_X8_delay n σ a1 a2 a4 K KX) ∧ (∀ K : ST → Prop, K (upI τ 1000 0 1) → wp_X9_delay τ a1 a2 a4 K) := by
  refine ⟨fun K KX hK => fl_bad h1 hK, fun K hK => ?_⟩
  unfold wp_X9_delay
  refine isIn_f (fl_bad5 h1) ⟨fun _ => ?_, fun w => absurd rfl w⟩
  unfold wp_X9_delay_J35 wp_X9_delay_J36 wp_X9_delay_J49
  exact ⟨fun _ => ref1 (by decide) ⟨fun w => absurd w z10, fun _ => hK⟩, fun w => absurd rfl w⟩
theorem case2_ok {xs : Nat → Int32} {L n now : Nat} {i : Int32} {o : Nat → Int64} {d : Nat → UInt64} {qs : Nat → List Nat} {rd : List Nat} {σ τ : ST} (h : Sim n now qs rd none σ τ) (h1 : vp_in (i + 1) L) (h2 : vp_in (i + 2) L) (h3 : vp_in (i + 3) L) (Kn : Nat → (Nat → Int64) → (Nat → UInt64) → ST → ST → Prop) (hK : ∀ o' d' σ' τ', Sim n now qs rd none σ' τ' → Kn n o' d' σ' τ') : wp_case2 xs L i n o d σ τ Kn := by
  unfold wp_case2
  have p2 := bd_m (x := xs (i + 2).toNatClampNeg)
  have p4 := bd_m (x := xs (i + 3).toNatClampNeg)
  generalize FP.dmul (FP.i2d (xs (i + 2).toNatClampNeg)) 4593671619917905920 = a2 at p2 ⊢
  generalize FP.dmul (FP.i2d (xs (i + 3).toNatClampNeg)) 4593671619917905920 = a4 at p4 ⊢
  generalize xs (i + 1).toNatClampNeg = a1
  refine ⟨h1, h2, p2.n64, h3, p4.n64, ?_⟩
  unfold wp_L_delay
  by_cases hv1 : a1 < 0 ∨ 6 ≤ a1
  · obtain ⟨kc, km⟩ := delay_bad1 (n := n) (a2 := a2) (a4 := a4) (σ := σ) (τ := τ) hv1
    exact kc _ _ ⟨rfl, h1, h2, p2.n64, h3, p4.n64, km _ (tlv s1000 (hK _ _ _ _ (thr_sim 1 h)))⟩
  · obtain ⟨b, hb, rfl⟩ := cls_of (fun w => hv1 (Or.inl w)) (fun w => hv1 (Or.inr w))
    by_cases hv : 0 < (xs (i + 2).toNatClampNeg).toInt ∧ (xs (i + 2).toNatClampNeg).toInt ≤ (xs (i + 3).toNatClampNeg).toInt ∧ (xs (i + 3).toNatClampNeg).toInt ≤ 80000
    · obtain ⟨σ', τ', kc, km, hS, ht⟩ := delay_ok h hb p2 p4 hv
      exact kc _ _ ⟨h1, h2, p2.n64, h3, p4.n64, km _ (tlv ht (hK _ _ _ _ hS))⟩
    · obtain ⟨kc, km⟩ := delay_bad (n := n) (σ := σ) (τ := τ) hb p2 p4 hv
      exact kc _ _ ⟨rfl, h1, h2, p2.n64, h3, p4.n64, km _ (tlv s1000 (hK _ _ _ _ (thr_sim 1 h)))⟩
