/-! the queries -/
theorem s1000 {τ : ST} {v : Int32} : sI (upI τ 1000 0 v) 1000 0 = v := sI_s _ _ _ _
theorem n1000 {τ : ST} {v : Int32} (f k : Nat) (h : f ≠ 1000) : sI (upI τ 1000 0 v) f k = sI τ f k := by rw [sI_upI, if_neg (fun w => h w.1)]
theorem fl_bad5 {a : Int32} (h : a < 0 ∨ 6 ≤ a) : a < 0 ∨ 5 < a := by
  rcases h with h | h
  · exact Or.inl h
  · exact Or.inr ((le_lt 5 (by decide)).mp h)
/-- the law's tail of a double's answer -/
theorem tld_ok {d : Nat → UInt64} {v w : UInt64} {th : Int32} {P X : Prop} (ht : th = 0) (hvw : v = w) (hn : FP.Core.val64 w ≠ .nan) (hP : P) : ((th = (0 : Int32) → (((¬ (0 : Int32) = 0 → P) ∧ ((0 : Int32) = 0 → ((((Op.cmpValue (FP.dcmp ((vf_upd d (0 : Int32).toNatClampNeg v) (0 : Int32).toNatClampNeg) w) .l) = 0 → P) ∧ (¬ ((Op.cmpValue (FP.dcmp ((vf_upd d (0 : Int32).toNatClampNeg v) (0 : Int32).toNatClampNeg) w) .l) = 0) → X))))))) ∧ (¬ (th = (0 : Int32)) → (False))) := by
  have e : (vf_upd d (0 : Int32).toNatClampNeg v) (0 : Int32).toNatClampNeg = w := (if_pos rfl).trans hvw
  rw [e]
  have hz : (Op.cmpValue (FP.dcmp w w) .l) = 0 := by rw [cmpV hn hn, if_neg (by omega), if_pos rfl]
  exact ⟨fun _ => ⟨fun w => absurd rfl w, fun _ => ⟨fun _ => hP, fun w => absurd hz w⟩⟩, fun w => w ht⟩
theorem ir_loop {z : ST} {rd : List Nat} {b : Nat} (hM : MR z rd) (h6 : rd.length ≤ 6) (hlt : ∀ i ∈ rd, i < 6) (hb : b < 6) (K : Int32 → ST → Prop) (hK : K (if b ∈ rd then 1 else 0) z) : ∀ (d x : Nat) (y : Int32), x + d = rd.length → y = (if b ∈ rd.take x then 1 else 0) → wp_X9_isRound_L4 (nI b) K (d + 1) z (nI x) y := by
  intro d
  induction d with
  | zero =>
    intro x y hx hy
    have e : x = rd.length := by omega
    subst e
    rw [List.take_length] at hy
    unfold wp_X9_isRound_L4
    rw [hM.1]
    refine ⟨fun _ => ⟨?_, by rw [hy]; exact hK⟩, fun w => absurd (nI_le (Nat.le_refl _) (by omega)) w⟩
    rw [hy]
    split
    · exact isB1
    · exact isB0
  | succ d ih =>
    intro x y hx hy
    have hxl : x < rd.length := by omega
    obtain ⟨i, hi, him⟩ : ∃ i, rd[x]? = some i ∧ i ∈ rd := ⟨rd[x], by simp [hxl], by simp⟩
    have e31 : sI z 1031 x = nI i := hM.2 x i hi
    have htk : ∀ c, c ∈ rd.take (x + 1) ↔ (c ∈ rd.take x ∨ c = i) := fun c => by
      rw [List.take_add_one, hi]
      simp
    have hi6 := hlt i him
    unfold wp_X9_isRound_L4
    rw [hM.1, nI_clamp (by omega), e31, nI_1]
    refine ⟨fun w => absurd w (nI_ge hxl (by omega)), fun _ => ⟨fun w => ?_, fun w => ⟨vp_in_nI (by omega) (by decide), fun w2 => ?_, fun w2 => ?_⟩⟩⟩
    · refine ih (x + 1) 1 (by omega) ?_
      have hm : b ∈ rd.take x := Classical.byContradiction fun q => w (by rw [hy, if_neg q])
      rw [if_pos ((htk b).mpr (Or.inl hm))]
    · refine ih (x + 1) 0 (by omega) ?_
      have hm : b ∉ rd.take x := fun q => by rw [hy, if_pos q] at w; exact absurd w (by decide)
      rw [if_neg]
      intro q
      rcases (htk b).mp q with q | q
      · exact hm q
      · exact w2 (by rw [q])
    · refine ih (x + 1) 1 (by omega) ?_
      have q : i = b := (nI_eq (by omega) (by omega)).mp w2
      rw [if_pos ((htk b).mpr (Or.inr q.symm))]
theorem ir_ok {z : ST} {rd : List Nat} {b : Nat} (hM : MR z rd) (h6 : rd.length ≤ 6) (hlt : ∀ i ∈ rd, i < 6) (hb : b < 6) (K : Int32 → ST → Prop) (hK : K (if b ∈ rd then 1 else 0) z) : wp_X9_isRound z (nI b) K := by
  unfold wp_X9_isRound
  exact ⟨rd.length + 1, ir_loop hM h6 hlt hb K hK rd.length 0 0 (by omega) (by simp)⟩
theorem cntM {τ s3 : ST} {b w : Nat} {K : Int32 → ST → Prop} (e3 : s3 = upI τ 1000 0 0) (hb : b < 6) (hw : w ≤ 9) (h6 : w = 6 → K (sI s3 1023 b) s3) (h7 : w = 7 → wp_X9_bytesWaiting s3 (nI b) K) (h9 : w = 9 → wp_X9_isRound s3 (nI b) (fun r7 s6 => ((r7 = 0 → (K 0 s6)) ∧ (¬ (r7 = 0) → (vp_in (nI b) 6 ∧ K (sI s6 1032 b) s6))))) (hx : w ≠ 6 → w ≠ 7 → w ≠ 9 → K (sI s3 1029 (10 * b + w)) s3) : wp_X9_count τ (nI b) (nI w) K := by
  have hc : (nI b).toNatClampNeg = b := nI_clamp (by omega)
  have e : (10 : Int32) * nI b + nI w = nI (10 * b + w) := by rw [show (10 : Int32) = nI 10 from rfl, pk_mul, nI_add]
  have ne : ∀ k : Nat, k ≤ 9 → nI w = nI k → w = k := fun k hk q => (nI_eq (by omega) (by omega)).mp q
  unfold wp_X9_count
  refine isIn_c hb ⟨fun q => absurd q z10, fun _ => isIn_t (nI_pos (by omega)) (nI_nlt (b := w) (a := 9) hw (by decide)) ⟨fun q => absurd q z10, fun _ => ?_⟩⟩
  unfold wp_X9_count_J25
  rw [hc, e, nI_clamp (by omega)]
  refine ref0 ⟨fun _ => ?_, fun q => absurd rfl q⟩
  rw [← e3]
  refine ⟨fun q6 => ⟨fun q7 => ⟨fun q9 => ⟨vp_in_nI (by omega) (by decide), hx (fun q => q6 (by rw [q]; rfl)) (fun q => q7 (by rw [q]; rfl)) (fun q => q9 (by rw [q]; rfl))⟩, fun q => h9 (ne 9 (by omega) q)⟩, fun q => h7 (ne 7 (by omega) q)⟩, fun q => ⟨vp_in_nI hb (by decide), h6 (ne 6 (by omega) q)⟩⟩
theorem cntC {n b w : Nat} {σ : ST} {v : Int32} (hb : b < 6) (hw : w ≤ 9) (h : (w = 0 → v = sI σ 40 b) ∧ (w = 1 → v = sI σ 41 b) ∧ (w = 2 → v = sI σ 43 b) ∧ (w = 3 → v = sI σ 44 b) ∧ (w = 4 → v = sI σ 45 b) ∧ (w = 5 → v = sI σ 46 b) ∧ (w = 6 → v = sI σ 98 b) ∧ (w = 7 → v = sI σ 99 b) ∧ (w = 8 → v = sI σ 42 b) ∧ (w = 9 → v = sI σ 38 b)) (K : Int32 → ST → Prop) (KX : String → ST → Prop) (hK : K v σ) : wp_X8_count n σ (nI b) (nI w) K KX := by
  have ne : ∀ k : Nat, k ≤ 9 → nI w = nI k → w = k := fun k hk q => (nI_eq (by omega) (by omega)).mp q
  obtain ⟨h0, h1, h2, h3, h4, h5, h6, h7, h8, h9⟩ := h
  have ht : (nI w).toInt = w := nI_toInt (by omega)
  unfold wp_X8_count
  refine fl_ok hb ⟨fun q => ?_, fun q => ⟨b, rfl, hb, ?_⟩, fun q => ⟨b, rfl, hb, ?_⟩, fun q => ⟨b, rfl, hb, ?_⟩, fun q => ⟨b, rfl, hb, ?_⟩, fun q => ⟨b, rfl, hb, ?_⟩, fun q => ⟨b, rfl, hb, ?_⟩, fun q => ⟨b, rfl, hb, hb, ?_⟩, fun q => ⟨b, rfl, hb, hb, ?_⟩, fun q => ⟨b, rfl, hb, ?_⟩, fun q => ⟨b, rfl, hb, ?_⟩⟩
  · rw [ht] at q; omega
  · rw [← h0 (ne 0 (by omega) q)]; exact hK
  · rw [← h1 (ne 1 (by omega) q)]; exact hK
  · rw [← h2 (ne 2 (by omega) q)]; exact hK
  · rw [← h3 (ne 3 (by omega) q)]; exact hK
  · rw [← h4 (ne 4 (by omega) q)]; exact hK
  · rw [← h5 (ne 5 (by omega) q)]; exact hK
  · rw [← h6 (ne 6 (by omega) q)]; exact hK
  · rw [← h7 (ne 7 (by omega) q)]; exact hK
  · rw [← h8 (ne 8 (by omega) q)]; exact hK
  · rw [← h9 (ne 9 (by omega) q)]; exact hK
/-- count, both sides -/
theorem count_ok {n now b w : Nat} {qs : Nat → List Nat} {rd : List Nat} {σ τ : ST} (h : Sim n now qs rd none σ τ) (hb : b < 6) (hw : w ≤ 9) : ∃ v : Int32, (∀ (K : Int32 → ST → Prop) (KX : String → ST → Prop), K v σ → wp_X8_count n σ (nI b) (nI w) K KX) ∧ (∀ K : Int32 → ST → Prop, K v (upI τ 1000 0 0) → wp_X9_count τ (nI b) (nI w) K) := by
  obtain ⟨s3, e3⟩ : ∃ z, z = upI τ 1000 0 0 := ⟨_, rfl⟩
  have h0 := thr_sim 0 h
  rw [← e3] at h0
  obtain ⟨hQ, hW, hS, hC, hK, hF, hB, hR, hM, hRQ, hL, hRF, hCV, hDV, hMV, hn⟩ := h0
  obtain ⟨w0, w1, w2, w3, w4, w5, w8⟩ := hC b hb
  have h98 : sI σ 98 b = nI (qs b).length := (hQ b hb).2.2.2.2.2.1
  have h99 : sI σ 99 b = nI (byt σ (qs b)) := (hQ b hb).2.2.2.2.2.2.1
  have h1023 : sI s3 1023 b = nI (qs b).length := (hQ b hb).2.2.2.2.2.2.2.1
  by_cases e6 : w = 6
  · refine ⟨sI σ 98 b, fun K KX g => cntC hb hw ⟨by omega, by omega, by omega, by omega, by omega, by omega, fun _ => rfl, by omega, by omega, by omega⟩ K KX g, fun K g => ?_⟩
    rw [← e3] at g
    exact cntM e3 hb hw (fun _ => by rw [h1023, ← h98]; exact g) (by omega) (by omega) (fun q _ _ => absurd e6 q)
  by_cases e7 : w = 7
  · refine ⟨sI σ 99 b, fun K KX g => cntC hb hw ⟨by omega, by omega, by omega, by omega, by omega, by omega, by omega, fun _ => rfl, by omega, by omega⟩ K KX g, fun K g => ?_⟩
    rw [← e3] at g
    exact cntM e3 hb hw (by omega) (fun _ => bw_ok hb (hW.len b hb) (hQ b hb).2.2.2.2.2.2.2 (hQ b hb).bytes K (by rw [← h99]; exact g)) (by omega) (fun _ q _ => absurd e7 q)
  by_cases e9 : w = 9
  · refine ⟨sI σ 38 b, fun K KX g => cntC hb hw ⟨by omega, by omega, by omega, by omega, by omega, by omega, by omega, by omega, by omega, fun _ => rfl⟩ K KX g, fun K g => ?_⟩
    rw [← e3] at g
    refine cntM e3 hb hw (by omega) (by omega) (fun _ => ir_ok hM (len6 hR.2.2.2.1 hR.2.2.2.2.1) hR.2.2.2.2.1 hb _ ?_) (fun _ _ q => absurd e9 q)
    by_cases hm : b ∈ rd
    · rw [if_pos hm]
      exact ⟨fun q => absurd q z10, fun _ => ⟨vp_in_nI hb (by decide), by rw [← (hF b hb).1 hm]; exact g⟩⟩
    · rw [if_neg hm]
      exact ⟨fun _ => by rw [(hF b hb).2.1 hm] at g; exact g, fun q => absurd rfl q⟩
  refine ⟨sI s3 1029 (10 * b + w), fun K KX g => cntC hb hw ⟨fun q => ?_, fun q => ?_, fun q => ?_, fun q => ?_, fun q => ?_, fun q => ?_, by omega, by omega, fun q => ?_, by omega⟩ K KX g, fun K g => ?_⟩
  · rw [q, w0]
  · rw [q, w1]
  · rw [q, w2]
  · rw [q, w3]
  · rw [q, w4]
  · rw [q, w5]
  · rw [q, w8]
  · rw [← e3] at g
    exact cntM e3 hb hw (fun q => absurd q e6) (fun q => absurd q e7) (fun q => absurd q e9) (fun _ _ _ => g)
theorem count_bad {n : Nat} {a1 a2 : Int32} {σ τ : ST} (hv : ¬ ((¬ a1 < 0 ∧ ¬ 6 ≤ a1) ∧ (¬ a2 < 0 ∧ a2 ≤ 9))) : (∀ (K : Int32 → ST → Prop) (KX : String → ST → Prop), KX "java/lang/IllegalArgumentException" σ → wp_X8_count n σ a1 a2 K KX) ∧ (∀ K : Int32 → ST → Prop, K 0 (upI τ 1000 0 1) → wp_X9_count τ a1 a2 K) := by
  by_cases h1 : a1 < 0 ∨ 6 ≤ a1
  · refine ⟨fun K KX hK => fl_bad h1 hK, fun K hK => ?_⟩
    unfold wp_X9_count
    refine isIn_f (fl_bad5 h1) ⟨fun _ => ?_, fun w => absurd rfl w⟩
    unfold wp_X9_count_J24 wp_X9_count_J25
    exact ref1 (by decide) ⟨fun w => absurd w z10, fun _ => hK⟩
  · obtain ⟨b, hb, rfl⟩ := cls_of (fun w => h1 (Or.inl w)) (fun w => h1 (Or.inr w))
    have h2 : a2 < 0 ∨ 9 < a2 := by
      by_cases w : a2 < 0
      · exact Or.inl w
      · exact Or.inr (Int32.not_le.mp (fun w2 => hv ⟨⟨fun w => h1 (Or.inl w), fun w => h1 (Or.inr w)⟩, w, w2⟩))
    have h3 : a2.toInt < 0 ∨ 9 < a2.toInt := by
      rcases h2 with h2 | h2
      · exact Or.inl (Int32.lt_iff_toInt_lt.mp h2)
      · exact Or.inr (Int32.lt_iff_toInt_lt.mp h2)
    have hne : ∀ k : Nat, k ≤ 9 → ¬ a2 = nI k := fun k hk q => by
      rw [q, nI_toInt (by omega)] at h3
      omega
    refine ⟨fun K KX hK => fl_ok hb ⟨fun _ => hK, fun q => absurd q (hne 0 (by omega)), fun q => absurd q (hne 1 (by omega)), fun q => absurd q (hne 2 (by omega)), fun q => absurd q (hne 3 (by omega)), fun q => absurd q (hne 4 (by omega)), fun q => absurd q (hne 5 (by omega)), fun q => absurd q (hne 6 (by omega)), fun q => absurd q (hne 7 (by omega)), fun q => absurd q (hne 8 (by omega)), fun q => absurd q (hne 9 (by omega))⟩, fun K hK => ?_⟩
    unfold wp_X9_count
    refine isIn_c hb ⟨fun w => absurd w z10, fun _ => isIn_f h2 ⟨fun _ => ?_, fun w => absurd rfl w⟩⟩
    unfold wp_X9_count_J24 wp_X9_count_J25
    exact ref1 (by decide) ⟨fun w => absurd w z10, fun _ => hK⟩
theorem case7_ok {xs : Nat → Int32} {L n now : Nat} {i : Int32} {o : Nat → Int64} {d : Nat → UInt64} {qs : Nat → List Nat} {rd : List Nat} {σ τ : ST} (h : Sim n now qs rd none σ τ) (h1 : vp_in (i + 1) L) (h2 : vp_in (i + 2) L) (Kn : Nat → (Nat → Int64) → (Nat → UInt64) → ST → ST → Prop) (hK : ∀ o' d' τ', Sim n now qs rd none σ τ' → Kn n o' d' σ τ') : wp_case7 xs L i n o d σ τ Kn := by
  unfold wp_case7
  refine ⟨h1, h2, ?_⟩
  unfold wp_L_count
  generalize xs (i + 1).toNatClampNeg = a1
  generalize xs (i + 2).toNatClampNeg = a2
  by_cases hv : (¬ a1 < 0 ∧ ¬ 6 ≤ a1) ∧ (¬ a2 < 0 ∧ a2 ≤ 9)
  · obtain ⟨⟨g1, g2⟩, g3, g4⟩ := hv
    obtain ⟨b, hb, rfl⟩ := cls_of g1 g2
    obtain ⟨w, _, hw, rfl⟩ := rng_of 0 9 (by decide) (by decide) g3 g4
    obtain ⟨v, kc, km⟩ := count_ok h hb hw
    exact kc _ _ ⟨h1, h2, km _ (tl_ok s1000 (hK _ _ _ (thr_sim 0 h)))⟩
  · obtain ⟨kc, km⟩ := count_bad (n := n) (σ := σ) (τ := τ) hv
    exact kc _ _ ⟨rfl, h1, h2, km _ (tl_ref z10 s1000 (hK _ _ _ (thr_sim 1 h)))⟩
theorem case8_ok {xs : Nat → Int32} {L n now : Nat} {i : Int32} {o : Nat → Int64} {d : Nat → UInt64} {qs : Nat → List Nat} {rd : List Nat} {σ τ : ST} (h : Sim n now qs rd none σ τ) (h1 : vp_in (i + 1) L) (Kn : Nat → (Nat → Int64) → (Nat → UInt64) → ST → ST → Prop) (hK : ∀ o' d' τ', Sim n now qs rd none σ τ' → Kn n o' d' σ τ') : wp_case8 xs L i n o d σ τ Kn := by
  unfold wp_case8
  refine ⟨h1, ?_⟩
  unfold wp_L_average wp_X8_average
  generalize xs (i + 1).toNatClampNeg = a1
  by_cases hv : a1 < 0 ∨ 6 ≤ a1
  · refine fl_bad hv ⟨rfl, h1, ?_⟩
    unfold wp_X9_average
    refine isIn_f (fl_bad5 hv) ⟨fun _ => ?_, fun w => absurd rfl w⟩
    unfold wp_X9_average_J15
    exact ref1 (by decide) ⟨fun w => absurd w z10, fun _ => tl_ref z10 s1000 (hK _ _ _ (thr_sim 1 h))⟩
  · obtain ⟨b, hb, rfl⟩ := cls_of (fun w => hv (Or.inl w)) (fun w => hv (Or.inr w))
    have hm := h.2.2.2.2.2.2.2.2.2.2.2.2.2.2.1 b hb
    refine fl_ok hb ⟨b, rfl, hb, hb, h1, ?_⟩
    unfold wp_X9_average
    refine isIn_c hb ⟨fun w => absurd w z10, fun _ => ?_⟩
    unfold wp_X9_average_J15
    rw [nI_clamp (by omega)]
    have e : sD σ 52 b = sD (upI τ 1000 0 0) 1012 b := hm.1.2.2.2.2.1
    exact ref0 ⟨fun _ => ⟨vp_in_nI hb (by decide), tld_ok s1000 e (by rw [← e]; exact hm.2.2.2.2.2.2.1.1) (hK _ _ _ (thr_sim 0 h))⟩, fun w => absurd rfl w⟩
theorem neg1_nn : FP.Core.val64 13830554455654793216 ≠ .nan := by
  have h : FP.Core.val64 13830554455654793216 = .fin true (2 ^ 52) (-52) := by decide +kernel
  rw [h]
  exact FP.Core.Datum.noConfusion
theorem case9_ok {xs : Nat → Int32} {L n now : Nat} {i : Int32} {o : Nat → Int64} {d : Nat → UInt64} {qs : Nat → List Nat} {rd : List Nat} {σ τ : ST} (h : Sim n now qs rd none σ τ) (h1 : vp_in (i + 1) L) (Kn : Nat → (Nat → Int64) → (Nat → UInt64) → ST → ST → Prop) (hK : ∀ o' d' τ', Sim n now qs rd none σ τ' → Kn n o' d' σ τ') : wp_case9 xs L i n o d σ τ Kn := by
  unfold wp_case9
  refine ⟨h1, ?_⟩
  unfold wp_L_next wp_X8_next
  generalize xs (i + 1).toNatClampNeg = a1
  by_cases hv : a1 < 0 ∨ 6 ≤ a1
  · refine fl_bad hv ⟨rfl, h1, ?_⟩
    unfold wp_X9_next
    refine isIn_f (fl_bad5 hv) ⟨fun _ => ?_, fun w => absurd rfl w⟩
    unfold wp_X9_next_J15
    exact ref1 (by decide) ⟨fun w => absurd w z10, fun _ => tl_ref z10 s1000 (hK _ _ _ (thr_sim 1 h))⟩
  · obtain ⟨b, hb, rfl⟩ := cls_of (fun w => hv (Or.inl w)) (fun w => hv (Or.inr w))
    have hm := h.2.2.2.2.2.2.2.2.2.2.2.2.2.1 b hb
    have e20 : sI σ 20 b = sI (upI τ 1000 0 0) 1019 b := by rw [n1000 1019 b (by omega)]; exact hm.1.2.2.2.2.1
    refine fl_ok hb ⟨b, rfl, hb, hb, fun hz => ⟨h1, ?_⟩, fun hz => ⟨h1, ?_⟩⟩
    · unfold wp_X9_next
      refine isIn_c hb ⟨fun w => absurd w z10, fun _ => ?_⟩
      unfold wp_X9_next_J15
      rw [nI_clamp (by omega)]
      exact ref0 ⟨fun _ => ⟨vp_in_nI hb (by decide), fun _ => tld_ok s1000 rfl neg1_nn (hK _ _ _ (thr_sim 0 h)), fun w => absurd (by rw [← e20]; exact hz) w⟩, fun w => absurd rfl w⟩
    · have e21 : sD σ 21 b = sD (upI τ 1000 0 0) 1020 b := by
        rcases hm.2.1 with q | q
        · exact q
        · exact absurd q.1 hz
      unfold wp_X9_next
      refine isIn_c hb ⟨fun w => absurd w z10, fun _ => ?_⟩
      unfold wp_X9_next_J15
      rw [nI_clamp (by omega)]
      exact ref0 ⟨fun _ => ⟨vp_in_nI hb (by decide), fun w => absurd (by rw [e20]; exact w) hz, fun _ => ⟨vp_in_nI hb (by decide), tld_ok s1000 e21 (by rw [← e21]; exact hm.2.2.2.2.1.1) (hK _ _ _ (thr_sim 0 h))⟩⟩, fun w => absurd rfl w⟩
/-! the round's place k -/
theorem chain_at {R : Nat → Option Nat} : ∀ {l : List Nat} {k b : Nat}, chain R l → l[k]? = some b → R b = l[k + 1]?
  | [], k, b, _, h => by simp at h
  | [p], k, b, c, h => by
    cases k with
    | zero =>
      have : p = b := by simpa using h
      subst this
      exact c
    | succ k => simp at h
  | p :: q :: l, k, b, c, h => by
    cases k with
    | zero =>
      have : p = b := by simpa using h
      subst this
      exact c.1
    | succ k =>
      have := chain_at (k := k) (b := b) c.2 (by simpa using h)
      simpa using this
theorem after_loop {n a : Nat} {σ : ST} {rd : List Nat} (h : RC σ rd) (ha : a < 2 ^ 31) (K : Option Nat → ST → Prop) (hK : K rd[a]? σ) : ∀ (d x : Nat) (y : Option Nat), x + d = a → y = rd[x]? → wp_X7_flowAfter_L15 n (nI a) K (d + 1) σ (nI x) y := by
  intro d
  induction d with
  | zero =>
    intro x y hx hy
    have e : x = a := by omega
    subst e
    exact ⟨fun _ => by rw [hy]; exact hK, fun w => absurd (nI_le (Nat.le_refl _) ha) w⟩
  | succ d ih =>
    intro x y hx hy
    refine ⟨fun w => absurd w (nI_ge (by omega) ha), fun _ => ⟨fun hn => ?_, fun b hb => ⟨?_, ?_⟩⟩⟩
    · have e : rd[a]? = none := by
        have hx2 : rd[x]? = none := by rw [← hy]; exact hn
        have := List.getElem?_eq_none_iff.mp hx2
        exact List.getElem?_eq_none_iff.mpr (by omega)
      rw [e] at hK
      exact hK
    · exact h.2.2.2.2.1 b (List.mem_of_getElem? (hy.symm.trans hb))
    · rw [nI_1]
      exact ih (x + 1) _ (by omega) (chain_at h.2.2.1 (hy.symm.trans hb))
theorem after_ok {n : Nat} {a : Int32} {σ : ST} {rd : List Nat} (h : RC σ rd) : (a < 0 → ∀ K : Option Nat → ST → Prop, K none σ → wp_X7_flowAfter n σ a K) ∧ (∀ k : Nat, k < 2 ^ 31 → a = nI k → ∀ K : Option Nat → ST → Prop, K rd[k]? σ → wp_X7_flowAfter n σ a K) := by
  refine ⟨fun h0 K hK => ?_, fun k hk e K hK => ?_⟩
  · have h1 : ¬ 0 ≤ a := Int32.not_le.mpr h0
    refine ⟨fun w => absurd w h1, fun _ => ?_⟩
    unfold wp_X7_flowAfter_J12
    exact ⟨1, ⟨fun _ => hK, fun w => absurd (Int32.le_of_lt h0) w⟩⟩
  · subst e
    refine ⟨fun _ => ?_, fun w => absurd (nI_pos' hk) w⟩
    unfold wp_X7_flowAfter_J12
    refine ⟨k + 1, after_loop h hk K hK k 0 _ (by omega) ?_⟩
    rw [h.1]
    cases rd <;> rfl
theorem szm1 {m k : Nat} (hm : m ≤ 100) (hk : k < 2 ^ 31) : (k < m → ¬ (nI m - 1 < nI k)) ∧ (m ≤ k → nI m - 1 < nI k) := by
  have e : (nI m - 1).toInt = (m : Int) - 1 := pk_sub_toInt (a := m) (b := 1) (by omega) (by decide)
  rw [Int32.lt_iff_toInt_lt, e, nI_toInt hk]
  omega
theorem case12_ok {xs : Nat → Int32} {L n now : Nat} {i : Int32} {o : Nat → Int64} {d : Nat → UInt64} {qs : Nat → List Nat} {rd : List Nat} {σ τ : ST} (h : Sim n now qs rd none σ τ) (h1 : vp_in (i + 1) L) (Kn : Nat → (Nat → Int64) → (Nat → UInt64) → ST → ST → Prop) (hK : ∀ o' d' τ', Sim n now qs rd none σ τ' → Kn n o' d' σ τ') : wp_case12 xs L i n o d σ τ Kn := by
  unfold wp_case12
  refine ⟨h1, ?_⟩
  unfold wp_X8_round wp_X9_round
  generalize xs (i + 1).toNatClampNeg = a1
  have hR : RC σ rd := h.2.2.2.2.2.2.2.1
  have hM : MR (upI τ 1000 0 0) rd := (thr_sim 0 h).2.2.2.2.2.2.2.2.1
  have h6 := len6 hR.2.2.2.1 hR.2.2.2.2.1
  have fin : ∀ v : Int32, ((v = v → Kn n o d σ (upI τ 1000 0 0)) ∧ (¬ (v = v) → False)) := fun v => ⟨fun _ => hK _ _ _ (thr_sim 0 h), fun w => w rfl⟩
  have mneg : ∀ K : Int32 → ST → Prop, (a1 < 0 ∨ sI (upI τ 1000 0 0) 1030 0 - 1 < a1) → K (-1) (upI τ 1000 0 0) → ∀ s1, s1 = upI τ 1000 0 0 → wp_X9_isIn s1 a1 0 ((sI s1 1030 0) - 1) (fun r3 s2 => ((r3 = 0 → (K (-1) s2)) ∧ (¬ (r3 = 0) → (vp_in a1 6 ∧ K (sI s2 1031 a1.toNatClampNeg) s2)))) := fun K hh hk s1 e1 => by
    rw [e1]
    exact isIn_f hh ⟨fun _ => hk, fun w => absurd rfl w⟩
  by_cases hneg : a1 < 0
  · refine (after_ok hR).1 hneg _ ⟨fun _ => ⟨h1, mneg (fun r4 τ => ((-1 = r4 → Kn n o d σ τ) ∧ (¬ (-1 = r4) → False))) (Or.inl hneg) (fin _)⟩, fun b hb => (by cases hb)⟩
  · obtain ⟨k, hk, rfl⟩ := nI_of hneg
    obtain ⟨z1, z2⟩ := szm1 (m := rd.length) (by omega) hk
    by_cases hkl : k < rd.length
    · obtain ⟨b, hb, hbm⟩ : ∃ i, rd[k]? = some i ∧ i ∈ rd := ⟨rd[k], by simp [hkl], by simp⟩
      have hb6 := hR.2.2.2.2.1 b hbm
      have e32 : sI σ 32 b = nI b := (h.2.2.2.2.1 b hb6).1
      refine (after_ok hR).2 k hk rfl _ ?_
      rw [hb]
      refine ⟨fun w => (by cases w), fun b3 h3 => ?_⟩
      cases h3
      refine ⟨hb6, h1, fun s1 e1 => ?_⟩
      rw [e1, hM.1]
      refine isIn_t hneg (z1 hkl) ⟨fun w => absurd w z10, fun _ => ⟨vp_in_nI (by omega) (by decide), ?_⟩⟩
      rw [nI_clamp hk, hM.2 k b hb, e32]
      exact fin _
    · have e : rd[k]? = none := List.getElem?_eq_none_iff.mpr (by omega)
      refine (after_ok hR).2 k hk rfl _ ?_
      rw [e]
      exact ⟨fun _ => ⟨h1, mneg (fun r4 τ => ((-1 = r4 → Kn n o d σ τ) ∧ (¬ (-1 = r4) → False))) (Or.inr (by rw [hM.1]; exact z2 (by omega))) (fin _)⟩, fun b hb => (by cases hb)⟩
/-! the packets that were sent -/
theorem and31s {c k : Nat} (hc : c < 2 ^ 31) (hk : k < 32) : (nI c - nI k) &&& 31 = nI ((c + 32 - k) % 32) := by
  rw [pk_and (nI c - nI k) 5 (by decide)]
  refine congrArg nI ?_
  have e1 : (nI c).toBitVec.toNat = c % 2 ^ 32 := rfl
  have e2 : (nI k).toBitVec.toNat = k % 2 ^ 32 := rfl
  rw [Int32.toBitVec_sub, BitVec.toNat_sub, e1, e2]
  omega
theorem lastC {n : Nat} {a1 : Int32} {σ : ST} {K : Option Nat → ST → Prop} {r : Option Nat} (h : (a1 < 0 ∨ 32 ≤ a1) ∧ r = none ∨ ∃ k c : Nat, k < 32 ∧ c < 2 ^ 31 ∧ a1 = nI k ∧ sI σ 65 0 = nI c ∧ r = sR σ 64 ((c + 32 - k) % 32)) (hK : K r σ) : wp_X4_lastBut n σ a1 K := by
  rcases h with ⟨h, e⟩ | ⟨k, c, h1, h2, h3, h4, h5⟩
  · rw [e] at hK
    by_cases h0 : a1 < 0
    · exact ⟨fun _ => hK, fun w => absurd h0 w⟩
    · refine ⟨fun w => absurd w h0, fun _ => ⟨fun _ => hK, fun w => ?_⟩⟩
      rcases h with h | h
      · exact absurd h h0
      · exact absurd h w
  · subst h3
    unfold wp_X4_lastBut wp_X4_place
    rw [h4, and31s h2 h1]
    have hm : (c + 32 - k) % 32 < 32 := Nat.mod_lt _ (by decide)
    refine ⟨fun w => absurd w (nI_pos (by omega)), fun _ => ⟨fun w => absurd w (nI_ge (b := 32) h1 (by decide)), fun _ => ⟨vp_in_nI hm (by decide), ?_⟩⟩⟩
    rw [nI_clamp (by omega), ← h5]
    exact hK
/-- sent, both sides -/
theorem sent_ok {n now w : Nat} {a1 : Int32} {qs : Nat → List Nat} {rd : List Nat} {σ τ : ST} (h : Sim n now qs rd none σ τ) (hw : w ≤ 4) : ∃ v : Int32, (∀ (K : Int32 → ST → Prop) (KX : String → ST → Prop), K v σ → wp_X8_sent n σ a1 (nI w) K KX) ∧ (∀ K : Int32 → ST → Prop, K v (upI τ 1000 0 0) → wp_X9_sent τ a1 (nI w) K) := by
  have h0 := thr_sim 0 h
  obtain ⟨s3, e3⟩ : ∃ z, z = upI τ 1000 0 0 := ⟨_, rfl⟩
  rw [← e3] at h0 ⊢
  obtain ⟨hQ, hW, hS, hC, hK, hF, hB, hR, hM, hRQ, ⟨c, l1, l2, l3, l5, l4⟩, hRF, hCV, hDV, hMV, hn⟩ := h0
  have ht : (nI w).toInt = w := nI_toInt (by omega)
  have ne : ∀ k : Nat, k ≤ 9 → nI w = nI k → w = k := fun k hk q => (nI_eq (by omega) (by omega)).mp q
  have a0 : ¬ nI w < 0 := nI_pos (by omega)
  have a4 : nI w ≤ 4 := nI_le (b := 4) hw (by decide)
  -- none such
  have hnone : ((a1 < 0 ∨ 32 ≤ a1) ∨ ∃ k : Nat, k < 32 ∧ a1 = nI k ∧ min c 32 ≤ k) → ∃ v : Int32, (∀ (K : Int32 → ST → Prop) (KX : String → ST → Prop), K v σ → wp_X8_sent n σ a1 (nI w) K KX) ∧ (∀ K : Int32 → ST → Prop, K v s3 → wp_X9_sent τ a1 (nI w) K) := by
    intro hh
    refine ⟨-1, fun K KX g => ⟨fun q => absurd q a0, fun _ => ⟨fun _ => lastC (r := none) ?_ ⟨fun _ => g, fun b hb => (by cases hb)⟩, fun q => absurd a4 q⟩⟩, fun K g => ?_⟩
    · rcases hh with hh | ⟨k, k1, k2, k3⟩
      · exact Or.inl ⟨hh, rfl⟩
      · exact Or.inr ⟨k, c, k1, by omega, k2, l1, (l5 _ (Nat.mod_lt _ (by decide)) (by omega) (by omega)).symm⟩
    · unfold wp_X9_sent
      refine isIn_t a0 (nI_nlt (b := w) (a := 4) hw (by decide)) ⟨fun q => absurd q z10, fun _ => ?_⟩
      unfold wp_X9_sent_J15
      refine ref0 ⟨fun _ => ?_, fun q => absurd rfl q⟩
      rw [← e3, l3]
      refine isIn_f ?_ ⟨fun _ => g, fun q => absurd rfl q⟩
      rcases hh with (hh | hh) | ⟨k, k1, k2, k3⟩
      · exact Or.inl hh
      · right
        have q : ¬ a1 < 0 := fun q => by
          rw [Int32.lt_iff_toInt_lt] at q
          rw [Int32.le_iff_toInt_le] at hh
          have z1 : (32 : Int32).toInt = 32 := rfl
          have z2 : (0 : Int32).toInt = 0 := rfl
          omega
        obtain ⟨k, hk, rfl⟩ := nI_of q
        have := (nI_leI (a := 32) (by decide) hk).mp hh
        exact (szm1 (m := min c 32) (by omega) hk).2 (by omega)
      · right
        rw [k2]
        exact (szm1 (m := min c 32) (by omega) (by omega)).2 k3
  by_cases hneg : a1 < 0
  · exact hnone (Or.inl (Or.inl hneg))
  obtain ⟨k, hk, rfl⟩ := nI_of hneg
  by_cases h32 : 32 ≤ k
  · exact hnone (Or.inl (Or.inr (nI_le (a := 32) h32 hk)))
  by_cases hmk : min c 32 ≤ k
  · exact hnone (Or.inr ⟨k, by omega, rfl, hmk⟩)
  obtain ⟨p, b1, b2, b3, b4, ⟨j, b5, b6, b7⟩, b8, b9, b10, b11⟩ := l4 k (by omega)
  have hj32 : sI σ 32 j = nI j := (hK j b5).1
  have eix : (c + 32 - k) % 32 = (c - k) % 32 := by omega
  refine ⟨sI s3 1037 (5 * k + w), fun K KX g => ⟨fun q => absurd q a0, fun _ => ⟨fun _ => lastC (r := some p) (Or.inr ⟨k, c, by omega, by omega, rfl, l1, by rw [eix]; exact b1.symm⟩) ⟨fun q => (by cases q), fun b hb => ?_⟩, fun q => absurd a4 q⟩⟩, fun K g => ?_⟩
  · cases hb
    refine ⟨fun q => ⟨b2, fun q2 => ?_, fun q2 => ?_⟩, fun q => ⟨b2, ?_⟩, fun q => ⟨b2, j, b6, b5, ?_⟩, fun q => ⟨b2, ?_⟩, fun q => ⟨b2, ?_⟩⟩
    · have : w = 4 := by rw [ht] at q; omega
      rw [this, b11, if_pos q2] at g; exact g
    · have : w = 4 := by rw [ht] at q; omega
      rw [this, b11, if_neg q2] at g; exact g
    · rw [ne 0 (by omega) q, b8] at g; exact g
    · rw [ne 1 (by omega) q, b7] at g; rw [hj32]; exact g
    · rw [ne 2 (by omega) q, b9] at g; exact g
    · rw [ne 3 (by omega) q, b10] at g; exact g
  · unfold wp_X9_sent
    refine isIn_t a0 (nI_nlt (b := w) (a := 4) hw (by decide)) ⟨fun q => absurd q z10, fun _ => ?_⟩
    unfold wp_X9_sent_J15
    refine ref0 ⟨fun _ => ?_, fun q => absurd rfl q⟩
    rw [← e3, l3]
    have e : (5 : Int32) * nI k + nI w = nI (5 * k + w) := by rw [show (5 : Int32) = nI 5 from rfl, pk_mul, nI_add]
    rw [e, nI_clamp (by omega)]
    exact isIn_t hneg ((szm1 (m := min c 32) (by omega) hk).1 (by omega)) ⟨fun q => absurd q z10, fun _ => ⟨vp_in_nI (by omega) (by decide), g⟩⟩
theorem sent_bad {n : Nat} {a1 a2 : Int32} {σ τ : ST} (hv : ¬ (¬ a2 < 0 ∧ a2 ≤ 4)) : (∀ (K : Int32 → ST → Prop) (KX : String → ST → Prop), KX "java/lang/IllegalArgumentException" σ → wp_X8_sent n σ a1 a2 K KX) ∧ (∀ K : Int32 → ST → Prop, K 0 (upI τ 1000 0 1) → wp_X9_sent τ a1 a2 K) := by
  have h2 : a2 < 0 ∨ 4 < a2 := by
    by_cases w : a2 < 0
    · exact Or.inl w
    · exact Or.inr (Int32.not_le.mp (fun w2 => hv ⟨w, w2⟩))
  refine ⟨fun K KX hK => ?_, fun K hK => ?_⟩
  · by_cases w : a2 < 0
    · exact ⟨fun _ => hK, fun q => absurd w q⟩
    · have w3 : 4 < a2 := by
        rcases h2 with h2 | h2
        · exact absurd h2 w
        · exact h2
      exact ⟨fun q => absurd q w, fun _ => ⟨fun q => absurd q (Int32.not_le.mpr w3), fun _ => hK⟩⟩
  · unfold wp_X9_sent
    refine isIn_f h2 ⟨fun _ => ?_, fun w => absurd rfl w⟩
    unfold wp_X9_sent_J15
    exact ref1 (by decide) ⟨fun w => absurd w z10, fun _ => hK⟩
theorem case11_ok {xs : Nat → Int32} {L n now : Nat} {i : Int32} {o : Nat → Int64} {d : Nat → UInt64} {qs : Nat → List Nat} {rd : List Nat} {σ τ : ST} (h : Sim n now qs rd none σ τ) (h1 : vp_in (i + 1) L) (h2 : vp_in (i + 2) L) (Kn : Nat → (Nat → Int64) → (Nat → UInt64) → ST → ST → Prop) (hK : ∀ o' d' τ', Sim n now qs rd none σ τ' → Kn n o' d' σ τ') : wp_case11 xs L i n o d σ τ Kn := by
  unfold wp_case11
  refine ⟨h1, h2, ?_⟩
  unfold wp_L_sent
  generalize xs (i + 1).toNatClampNeg = a1
  generalize xs (i + 2).toNatClampNeg = a2
  by_cases hv : ¬ a2 < 0 ∧ a2 ≤ 4
  · obtain ⟨g3, g4⟩ := hv
    obtain ⟨w, _, hw, rfl⟩ := rng_of 0 4 (by decide) (by decide) g3 g4
    obtain ⟨v, kc, km⟩ := sent_ok (a1 := a1) h hw
    exact kc _ _ ⟨h1, h2, km _ (tl_ok s1000 (hK _ _ _ (thr_sim 0 h)))⟩
  · obtain ⟨kc, km⟩ := sent_bad (n := n) (a1 := a1) (σ := σ) (τ := τ) hv
    exact kc _ _ ⟨rfl, h1, h2, km _ (tl_ref z10 s1000 (hK _ _ _ (thr_sim 1 h)))⟩
