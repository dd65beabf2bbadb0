theorem upI_upI (σ : ST) (f j : Nat) (v w : Int32) : upI (upI σ f j v) f j w = upI σ f j w := by
  have : up2 (up2 σ.1 f j v) f j w = up2 σ.1 f j w := by
    funext x y
    rw [up2_ap, up2_ap, up2_ap]
    split <;> rfl
  show (up2 (up2 σ.1 f j v) f j w, σ.2.1, σ.2.2) = (up2 σ.1 f j w, σ.2.1, σ.2.2)
  rw [this]
/-- the mean's words of the class j, both sides -/
def MV (now : Nat) (σ τ : ST) (j : Nat) : Prop := (sD σ 48 j = sD τ 1008 j ∧ sD σ 49 j = sD τ 1009 j ∧ sD σ 50 j = sD τ 1010 j ∧ sD σ 51 j = sD τ 1011 j ∧ sD σ 52 j = sD τ 1012 j ∧ sI σ 53 j = sI τ 1013 j ∧ sI σ 54 j = sI τ 1014 j) ∧ bd 0 8000 (sD σ 48 j) ∧ bd 1 8000 (sD σ 49 j) ∧ ZF (sD σ 48 j) + (U8 : Int) ≤ ZF (sD σ 49 j) ∧ bd 0 8 (sD σ 50 j) ∧ bd 0 8 (sD σ 51 j) ∧ bd 0 1600 (sD σ 52 j) ∧ ∃ e : Nat, sI σ 54 j = nI e ∧ e ≤ now
theorem MV.congr {now : Nat} {σ τ σ' τ' : ST} {j : Nat} (h : MV now σ τ j) (h1 : ∀ f, f = 53 ∨ f = 54 → sI σ' f j = sI σ f j) (h2 : ∀ f, 48 ≤ f ∧ f ≤ 52 → sD σ' f j = sD σ f j) (h3 : ∀ f, f = 1013 ∨ f = 1014 → sI τ' f j = sI τ f j) (h4 : ∀ f, 1008 ≤ f ∧ f ≤ 1012 → sD τ' f j = sD τ f j) : MV now σ' τ' j := by
  unfold MV
  rw [h1 53 (by omega), h1 54 (by omega), h2 48 (by omega), h2 49 (by omega), h2 50 (by omega), h2 51 (by omega), h2 52 (by omega), h3 1013 (by omega), h3 1014 (by omega), h4 1008 (by omega), h4 1009 (by omega), h4 1010 (by omega), h4 1011 (by omega), h4 1012 (by omega)]
  exact h
theorem MV.mono {now now' : Nat} {σ τ : ST} {j : Nat} (h : MV now σ τ j) (hm : now ≤ now') : MV now' σ τ j := by
  obtain ⟨a, b, c, d, e, x, y, z, p, q⟩ := h
  exact ⟨a, b, c, d, e, x, y, z, p, by omega⟩
def frM (j : Nat) (σ σ' τ τ' : ST) : Prop := (∀ f k, sR σ' f k = sR σ f k) ∧ (∀ f k, ¬ ((f = 53 ∨ f = 54) ∧ k = j) → f ≠ 2 → sI σ' f k = sI σ f k) ∧ (∀ f k, ¬ (f = 52 ∧ k = j) → sD σ' f k = sD σ f k) ∧ (∀ f k, ¬ ((f = 1013 ∨ f = 1014) ∧ k = j) → f ≠ 1034 → sI τ' f k = sI τ f k) ∧ (∀ f k, ¬ (f = 1012 ∧ k = j) → f ≠ 1035 → sD τ' f k = sD τ f k)
theorem frM.trans {j : Nat} {σ τ σ1 τ1 σ2 τ2 : ST} (a : frM j σ σ1 τ τ1) (b : frM j σ1 σ2 τ1 τ2) : frM j σ σ2 τ τ2 :=
  ⟨fun f k => (b.1 f k).trans (a.1 f k), fun f k h g => (b.2.1 f k h g).trans (a.2.1 f k h g), fun f k h => (b.2.2.1 f k h).trans (a.2.2.1 f k h), fun f k h g => (b.2.2.2.1 f k h g).trans (a.2.2.2.1 f k h g), fun f k h g => (b.2.2.2.2 f k h g).trans (a.2.2.2.2 f k h g)⟩
theorem reck_loop {n j now b : Nat} {l : Int32} {σ τ : ST} (hj : j < 6) (hB : (if 100 < (nI now - sI σ 54 j) then 100 else (nI now - sI σ 54 j)) = nI b) (hb : b ≤ 100) (hnow : sI τ 1001 0 = nI now) (ew : sD σ 51 j = sD τ 1011 j) (hw : bd 0 8 (sD σ 51 j)) : ∀ (d t : Nat) (σz τz : ST), t + d = b → (∀ f k, sR σz f k = sR σ f k) → (∀ f k, sI σz f k = sI σ f k) → (∀ f k, ¬ (f = 52 ∧ k = j) → sD σz f k = sD σ f k) → (∀ f k, sI τz f k = sI τ f k) → (∀ f k, ¬ (f = 1012 ∧ k = j) → sD τz f k = sD τ f k) → sD σz 52 j = sD τz 1012 j → bd 0 1600 (sD σz 52 j) →
    ∃ σ' τ', (∀ K : ST → Prop, K σ' → wp_X3_reckon_L41 n j l (nI now) σ K (d + 1) σz (nI t)) ∧ (∀ (KK : Int32 → ST → Prop) (K : ST → Prop), K τ' → wp_X9_look_L44 (nI j) (nI b) KK K (d + 1) τz (nI t)) ∧ sI σ' 54 j = nI now ∧ sI τ' 1014 j = nI now ∧ sI σ' 53 j = sI σ 53 j ∧ sI τ' 1013 j = sI τ 1013 j ∧ sD σ' 52 j = sD τ' 1012 j ∧ bd 0 1600 (sD σ' 52 j) ∧ frM j σ σ' τ τ' ∧ (∀ M, CV M σ τ → CV M σ' τ') := by
  have hin : vp_in (nI j) 6 := vp_in_nI hj (by decide)
  have hc : (nI j).toNatClampNeg = j := nI_clamp (by omega)
  intro d
  induction d with
  | zero =>
    intro t σz τz ht g1 g2 g3 g4 g5 g6 g7
    have e : t = b := by omega
    subst e
    refine ⟨upI σz 54 j (nI now), upI τz 1014 j (nI now), fun K hK => ?_, fun KK K hK => ?_, ?_, ?_, ?_, ?_, g6, g7, ⟨g1, fun f k q _ => ?_, g3, fun f k q _ => ?_, fun f k q _ => g5 f k q⟩, fun M C => C.congr (by rw [sI_upI, if_neg (by omega)]; exact g2 _ _) (by rw [sI_upI, if_neg (by omega)]; exact g2 _ _) (fun k => g3 0 k (by omega)) (by rw [sI_upI, if_neg (by omega)]; exact g4 _ _) (fun k => g5 1035 k (by omega))⟩
    · unfold wp_X3_reckon_L41
      rw [hB]
      exact ⟨fun _ => ⟨hj, fun s3 e3 => by subst e3; exact hK⟩, fun q => absurd (nI_le (Nat.le_refl t) (by omega)) q⟩
    · unfold wp_X9_look_L44
      rw [hc, g4 1001 0, hnow]
      exact ⟨fun _ => ⟨hin, fun s3 e3 => by subst e3; exact hK⟩, fun q => absurd (nI_le (Nat.le_refl t) (by omega)) q⟩
    · rw [sI_upI, if_pos ⟨rfl, rfl⟩]
    · rw [sI_upI, if_pos ⟨rfl, rfl⟩]
    · rw [sI_upI, if_neg (by omega)]; exact g2 _ _
    · rw [sI_upI, if_neg (by omega)]; exact g4 _ _
    · rw [sI_upI, if_neg (by omega)]; exact g2 _ _
    · rw [sI_upI, if_neg (by omega)]; exact g4 _ _
  | succ d ih =>
    intro t σz τz ht g1 g2 g3 g4 g5 g6 g7
    have ewz : sD σz 51 j = sD σ 51 j := g3 51 j (by omega)
    have ewt : sD τz 1011 j = sD σ 51 j := by rw [g5 1011 j (by omega), ew]
    obtain ⟨n1, n2, h3⟩ := avg_down g7 hw
    obtain ⟨σ', τ', k1, k2, r⟩ := ih (t + 1) (upD σz 52 j (FP.dmul (sD σz 52 j) (FP.dsub FP.dconst1 (sD σ 51 j)))) (upD τz 1012 j (FP.dmul (sD σz 52 j) (FP.dsub FP.dconst1 (sD σ 51 j)))) (by omega) (fun f k => g1 f k) (fun f k => g2 f k) (fun f k q => by rw [sD_upD, if_neg q]; exact g3 f k q) (fun f k => g4 f k) (fun f k q => by rw [sD_upD, if_neg q]; exact g5 f k q) (by rw [sD_upD, sD_upD, if_pos ⟨rfl, rfl⟩, if_pos ⟨rfl, rfl⟩]) (by rw [sD_upD, if_pos ⟨rfl, rfl⟩]; exact h3)
    have hlt : ¬ nI b ≤ nI t := nI_ge (by omega) (by omega)
    refine ⟨σ', τ', fun K hK => ?_, fun KK K hK => ?_, r⟩
    · unfold wp_X3_reckon_L41
      rw [hB, ewz]
      refine ⟨fun q => absurd q hlt, fun _ => ⟨hj, n1, n2, fun s5 e5 => ?_⟩⟩
      subst e5
      rw [nI_1]; exact k1 K hK
    · unfold wp_X9_look_L44
      rw [hc, ewt, ← g6]
      refine ⟨fun q => absurd q hlt, fun _ => ⟨hin, hin, n1, n2, hin, fun s35 e35 => ?_⟩⟩
      subst e35
      rw [nI_1]; exact k2 KK K hK
theorem reck_ok {n j now l : Nat} {σ τ : ST} (hj : j < 6) (D : MV now σ τ j) (hnow : sI τ 1001 0 = nI now) (hn : now ≤ 512000) (hl : l ≤ 100) (h1023 : sI τ 1023 j = nI l) :
    ∃ σ' τ', (∀ K : ST → Prop, K σ' → wp_X3_reckon n σ j (nI l) (nI now) K) ∧ (∀ K : Int32 → ST → Prop, wp_X9_look_J123 (nI j) K τ' → wp_X9_look τ (nI j) K) ∧ MV now σ' τ' j ∧ frM j σ σ' τ τ' ∧ (∀ M, CV M σ τ → CV M σ' τ') := by
  have hin : vp_in (nI j) 6 := vp_in_nI hj (by decide)
  have hc : (nI j).toNatClampNeg = j := nI_clamp (by omega)
  obtain ⟨⟨a1, a2, a3, a4, a5, a6, a7⟩, D2, D3, D4, D5, D6, D7, e, D8, D9⟩ := id D
  by_cases h0 : l = 0
  · subst h0
    have hdiff : nI now - nI e = nI (now - e) := pk_sub D9
    obtain ⟨b, hb⟩ : ∃ b, b = if 100 < now - e then 100 else now - e := ⟨_, rfl⟩
    have hb100 : b ≤ 100 := by rw [hb]; split <;> omega
    have hB : (if 100 < (nI now - sI σ 54 j) then 100 else (nI now - sI σ 54 j)) = nI b := by
      rw [D8, hdiff, hb]
      by_cases h : 100 < now - e
      · have h2 : (100 : Int32) < nI (now - e) := nI_lt (a := 100) h (by omega)
        rw [if_pos h2, if_pos h]; rfl
      · have h2 : ¬ (100 : Int32) < nI (now - e) := nI_nlt (b := now - e) (a := 100) (by omega) (by decide)
        rw [if_neg h2, if_neg h]
    obtain ⟨σ', τ', k1, k2, r1, r2, r3, r4, r5, r6, fr, cv⟩ := reck_loop (n := n) (l := nI 0) (σ := σ) (τ := τ) hj hB hb100 hnow a4 D6 b 0 σ τ (by omega) (fun _ _ => rfl) (fun _ _ => rfl) (fun _ _ _ => rfl) (fun _ _ => rfl) (fun _ _ _ => rfl) a5 D7
    refine ⟨σ', τ', fun K hK => ?_, fun K hK => ?_, ?_, fr, cv⟩
    · unfold wp_X3_reckon
      exact ⟨fun _ => ⟨hj, b + 1, k1 K hK⟩, fun q => absurd (by decide) q⟩
    · unfold wp_X9_look
      rw [hc, h1023, hnow, ← a7, D8, hdiff]
      refine ⟨hin, fun q => absurd rfl q, fun _ => ⟨hin, fun q => ?_, fun q => ⟨hin, ?_⟩⟩⟩
      · have h : 100 ≤ now - e := (nI_leI (a := 100) (by decide) (by omega)).mp q
        have hb2 : b = 100 := by rw [hb]; split <;> omega
        subst hb2
        exact ⟨101, k2 _ _ hK⟩
      · have h : ¬ 100 ≤ now - e := fun h => q ((nI_leI (a := 100) (by decide) (by omega)).mpr h)
        have hb2 : b = now - e := by rw [hb]; split <;> omega
        rw [← hb2]
        exact ⟨b + 1, k2 _ _ hK⟩
    · obtain ⟨f1, f2, f3, f4, f5⟩ := fr
      unfold MV
      rw [f3 48 j (by omega), f3 49 j (by omega), f3 50 j (by omega), f3 51 j (by omega), f5 1008 j (by omega) (by omega), f5 1009 j (by omega) (by omega), f5 1010 j (by omega) (by omega), f5 1011 j (by omega) (by omega), r1, r2, r3, r4]
      exact ⟨⟨a1, a2, a3, a4, r5, a6, rfl⟩, D2, D3, D4, D5, D6, r6, now, rfl, Nat.le_refl _⟩
  · obtain ⟨n1, n2, n3, h4⟩ := avg_up hl D7 D6
    obtain ⟨x, ex⟩ : ∃ x, x = FP.dadd (sD σ 52 j) (FP.dmul (sD σ 51 j) (FP.dsub (FP.i2d (nI l)) (sD σ 52 j))) := ⟨_, rfl⟩
    refine ⟨upD σ 52 j x, upD τ 1012 j x, fun K hK => ?_, fun K hK => ?_, ?_, ⟨fun _ _ => rfl, fun _ _ _ _ => rfl, fun f k q => by rw [sD_upD, if_neg q], fun _ _ _ _ => rfl, fun f k q _ => by rw [sD_upD, if_neg q]⟩, fun M C => C.congr rfl rfl (fun k => by rw [sD_upD, if_neg (by omega)]) rfl (fun k => by rw [sD_upD, if_neg (by omega)])⟩
    · unfold wp_X3_reckon
      refine ⟨fun q => absurd q (nI_nle (by omega) (by omega)), fun _ => ⟨hj, n1, n2, n3, fun s7 e7 => ?_⟩⟩
      rw [← ex] at e7
      subst e7; exact hK
    · unfold wp_X9_look
      rw [hc, h1023, ← a5, ← a4]
      refine ⟨hin, fun _ => ⟨hin, hin, hin, hin, n1, n2, n3, hin, fun s28 e28 => ?_⟩, fun q => absurd q (nI_ne0 (by omega) (by omega))⟩
      rw [← ex] at e28
      subst e28; exact hK
    · unfold MV
      simp only [sI_upD, sD_upD]
      simp only [true_and, and_true, if_true, false_and, if_false, show ¬ ((48 : Nat) = 52) by decide, show ¬ ((49 : Nat) = 52) by decide, show ¬ ((50 : Nat) = 52) by decide, show ¬ ((51 : Nat) = 52) by decide, show ¬ ((1008 : Nat) = 1012) by decide, show ¬ ((1009 : Nat) = 1012) by decide, show ¬ ((1010 : Nat) = 1012) by decide, show ¬ ((1011 : Nat) = 1012) by decide]
      exact ⟨⟨a1, a2, a3, a4, a6, a7⟩, D2, D3, D4, D5, D6, by rw [ex]; exact h4, e, D8, D9⟩
/-- the mean's verdict: 0 let in, 1 refused, 2 hit -/
theorem verd_ok {n j now M : Nat} {σ τ : ST} (hj : j < 6) (D : MV now σ τ j) (C : CV M σ τ) (hM : M ≤ 1000) :
    ∃ (r : Int32) (σ' τ' : ST), (∀ A B E : ST → Prop, (r = 0 → A σ') → (r = 2 → B σ') → (r = 1 → E σ') → wp_X3_refuses n σ j (fun r6 s5 => ((r6 = 0 → wp_X3_hits n s5 j (fun r8 s7 => ((r8 = 0 → A s7) ∧ (¬ (r8 = 0) → B s7)))) ∧ (¬ (r6 = 0) → E s5)))) ∧ (∀ K : Int32 → ST → Prop, K r τ' → wp_X9_look_J123 (nI j) K τ) ∧ (r = 0 ∨ r = 1 ∨ r = 2) ∧ MV now σ' τ' j ∧ CV M σ' τ' ∧ frM j σ σ' τ τ' := by
  have hin : vp_in (nI j) 6 := vp_in_nI hj (by decide)
  have hc : (nI j).toNatClampNeg = j := nI_clamp (by omega)
  have up := U8_pos
  obtain ⟨⟨a1, a2, a3, a4, a5, a6, a7⟩, D2, D3, D4, D5, D6, D7, e, D8, D9⟩ := id D
  -- a count written on both sides
  have hset : ∀ v : Int32, MV now (upI σ 53 j v) (upI τ 1013 j v) j ∧ CV M (upI σ 53 j v) (upI τ 1013 j v) ∧ frM j σ (upI σ 53 j v) τ (upI τ 1013 j v) := by
    intro v
    refine ⟨?_, C.congr (by rw [sI_upI, if_neg (by omega)]) (by rw [sI_upI, if_neg (by omega)]) (fun _ => rfl) (by rw [sI_upI, if_neg (by omega)]) (fun _ => rfl), ⟨fun _ _ => rfl, fun f k q _ => by rw [sI_upI, if_neg (by omega)], fun _ _ _ => rfl, fun f k q _ => by rw [sI_upI, if_neg (by omega)], fun _ _ _ _ => rfl⟩⟩
    unfold MV
    simp only [sI_upI, sD_upI]
    simp only [true_and, and_true, if_true, false_and, if_false, show ¬ ((54 : Nat) = 53) by decide, show ¬ ((1014 : Nat) = 1013) by decide]
    exact ⟨⟨a1, a2, a3, a4, a5, a7⟩, D2, D3, D4, D5, D6, D7, e, D8, D9⟩
  by_cases hhi : ZF (sD σ 49 j) ≤ ZF (sD σ 52 j)
  · -- refused
    have h1 : 0 ≤ (Op.cmpValue (FP.dcmp (sD σ 52 j) (sD σ 49 j)) .g) := (c_ge D7.1 D3.1).mpr hhi
    have h2 : 0 ≤ (Op.cmpValue (FP.dcmp (sD σ 52 j) (sD σ 48 j)) .g) := (c_ge D7.1 D2.1).mpr (by omega)
    have h3 : ¬ (Op.cmpValue (FP.dcmp (sD σ 52 j) (sD σ 49 j)) .l) < 0 := fun q => by have := (c_lt D7.1 D3.1).mp q; omega
    obtain ⟨g1, g2, g3⟩ := hset 0
    refine ⟨1, upI σ 53 j 0, upI τ 1013 j 0, fun A B E _ _ hE => ?_, fun K hK => ?_, Or.inr (Or.inl rfl), g1, g2, g3⟩
    · unfold wp_X3_refuses
      exact ⟨hj, fun _ s2 e2 => (by subst e2; exact ⟨fun q => absurd q (by decide), fun _ => hE rfl⟩), fun q => absurd h1 q⟩
    · unfold wp_X9_look_J123
      rw [hc, ← a5, ← a1, ← a2]
      exact ⟨hin, hin, fun _ => ⟨hin, hin, fun q => absurd q h3, fun _ => ⟨hin, fun s20 e20 => by subst e20; exact hK⟩⟩, fun q => absurd h2 q⟩
  · have h1 : ¬ 0 ≤ (Op.cmpValue (FP.dcmp (sD σ 52 j) (sD σ 49 j)) .g) := fun q => hhi ((c_ge D7.1 D3.1).mp q)
    have h3 : (Op.cmpValue (FP.dcmp (sD σ 52 j) (sD σ 49 j)) .l) < 0 := (c_lt D7.1 D3.1).mpr (by omega)
    have hpass : ∀ (r6 : Int32) (P : Prop), P → ((r6 = 0 → P) ∧ (¬ (r6 = 0) → True)) := fun _ _ p => ⟨fun _ => p, fun _ => trivial⟩
    by_cases hlo : 0 ≤ (Op.cmpValue (FP.dcmp (sD σ 52 j) (sD σ 48 j)) .g)
    · have hlo' := (c_ge D7.1 D2.1).mp hlo
      -- the numbers
      have q1 : bd 0 1600 (FP.dsub (sD σ 52 j) (sD σ 48 j)) := by
        have w := bd_sub D7 D2 (by decide) (by decide) (by decide) (by decide) (by decide) (by decide)
        refine ⟨w.1, ?_, w.2.2⟩
        rw [← E8_val (m := 0) (by decide)]
        exact zsub_ge (D7.fin (by decide) (by decide)) (D2.fin (by decide) (by decide)) (E8_fits _) (E8_nn _) (by rw [E8_val (by decide)]; omega)
      have q2 : bd 0 1600 (FP.dmul (sD σ 50 j) (FP.dsub (sD σ 52 j) (sD σ 48 j))) := bd_mul D5 q1 (by decide) (by decide) (by decide) (by decide)
      have q3 : bd 1 8000 (FP.dsub (sD σ 49 j) (sD σ 48 j)) := by
        have w := bd_sub D3 D2 (by decide) (by decide) (by decide) (by decide) (by decide) (by decide)
        refine ⟨w.1, ?_, w.2.2⟩
        rw [← E8_val (m := 1) (by decide)]
        exact zsub_ge (D3.fin (by decide) (by decide)) (D2.fin (by decide) (by decide)) (E8_fits _) (E8_nn _) (by rw [E8_val (by decide)]; omega)
      obtain ⟨pb, epb⟩ : ∃ pb, pb = FP.ddiv (FP.dmul (sD σ 50 j) (FP.dsub (sD σ 52 j) (sD σ 48 j))) (FP.dsub (sD σ 49 j) (sD σ 48 j)) := ⟨_, rfl⟩
      have q4 : bd 0 12800 pb := by
        rw [epb]
        exact bd_div q2 (q3.fin (by decide) (by decide)) q3.2.1 (by decide) (by decide) (by decide) (by decide) (by decide)
      obtain ⟨v, ev⟩ : ∃ v, v = sI σ 53 j + 1 := ⟨_, rfl⟩
      have q5 : bd (-27487790694400) 27487790694400 (FP.dmul (FP.i2d v) pb) := bd_mulA (cnt_bd v) q4 (by decide) (by decide) (by decide) (by decide) (by decide)
      have q6 := bd_sub bd_1 q5 (by decide) (by decide) (by decide) (by decide) (by decide) (by decide)
      obtain ⟨dn, edn⟩ : ∃ dn, dn = FP.dsub FP.dconst1 (FP.dmul (FP.i2d v) pb) := ⟨_, rfl⟩
      rw [← edn] at q6
      obtain ⟨g1, g2, g3⟩ := hset v
      by_cases hz : (Op.cmpValue (FP.dcmp dn FP.dconst0) .g) ≤ 0
      · have hz2 : (Op.cmpValue (FP.dcmp dn FP.dconst0) .l) ≤ 0 := by rw [c_op q6.1 bd_0.1 .l .g]; exact hz
        obtain ⟨g4, g5, g6⟩ := hset 0
        have eσ : upI (upI σ 53 j v) 53 j 0 = upI σ 53 j 0 := upI_upI σ 53 j v 0
        have eτ : upI (upI τ 1013 j v) 1013 j 0 = upI τ 1013 j 0 := upI_upI τ 1013 j v 0
        refine ⟨2, upI σ 53 j 0, upI τ 1013 j 0, fun A B E _ hB _ => ?_, fun K hK => ?_, Or.inr (Or.inr rfl), g4, g5, g6⟩
        · unfold wp_X3_refuses
          refine ⟨hj, fun q => absurd q h1, fun _ => ⟨fun _ => ?_, fun q => absurd rfl q⟩⟩
          unfold wp_X3_hits
          refine ⟨hj, fun _ s2 e2 => ?_, fun q => absurd hlo q⟩
          rw [← ev] at e2
          have e53 : sI s2 53 j = v := by rw [e2, sI_upI, if_pos ⟨rfl, rfl⟩]
          have eD : ∀ f, sD s2 f j = sD σ f j := fun f => by rw [e2]; rfl
          simp only [eD, e53]
          rw [← epb, ← edn]
          refine ⟨q1.n64, q2.n64, q3.n64, q4.n64, q5.n64, q6.n64, fun _ => ⟨fun q => absurd q (by decide), fun _ s3 e3 => ?_⟩, fun q => absurd hz q⟩
          rw [e2, eσ] at e3
          subst e3
          exact ⟨fun q => absurd q (by decide), fun _ => hB rfl⟩
        · unfold wp_X9_look_J123
          rw [hc, ← a5, ← a1, ← a2]
          refine ⟨hin, hin, fun _ => ⟨hin, hin, fun _ => ⟨hin, hin, fun s8 e8 => ?_⟩, fun q => absurd h3 q⟩, fun q => absurd hlo q⟩
          rw [← a6, ← ev] at e8
          have e53 : sI s8 1013 j = v := by rw [e8, sI_upI, if_pos ⟨rfl, rfl⟩]
          have e12 : sD s8 1012 j = sD σ 52 j := by rw [e8, a5]; rfl
          have e08 : sD s8 1008 j = sD σ 48 j := by rw [e8, a1]; rfl
          have e09 : sD s8 1009 j = sD σ 49 j := by rw [e8, a2]; rfl
          have e10 : sD s8 1010 j = sD σ 50 j := by rw [e8, a3]; rfl
          simp only [e12, e08, e09, e10, e53]
          rw [← epb, ← edn]
          refine ⟨hin, hin, hin, q1.n64, q2.n64, hin, hin, q3.n64, q4.n64, hin, q5.n64, q6.n64, fun _ => ?_, fun q => absurd hz2 q⟩
          unfold wp_X9_look_J250 wp_X9_look_J255
          refine ⟨fun q => absurd q (by decide), fun _ => ⟨hin, fun s16 e16 => ⟨fun q => absurd q (by decide), fun _ => ?_⟩⟩⟩
          rw [hc, e8, eτ] at e16
          subst e16
          exact hK
      · have hz2 : ¬ (Op.cmpValue (FP.dcmp dn FP.dconst0) .l) ≤ 0 := by rw [c_op q6.1 bd_0.1 .l .g]; exact hz
        have hdn : 0 < ZF dn := by
          have h9 : ¬ ZF dn ≤ ZF FP.dconst0 := fun q => hz ((c_le q6.1 bd_0.1).mpr q)
          have := bd_eq bd_0
          omega
        have fdn := q6.fin (by decide) (by decide)
        have hnz : ¬ FP.Core.DZero dn := by
          rintro ⟨s, r, e⟩
          unfold ZF at hdn
          rw [e] at hdn
          have : FP.Core.zval FP.Core.b64 (.fin s 0 r) = 0 := by
            show FP.Core.signed s (0 * _) = 0
            rw [Nat.zero_mul]
            cases s <;> rfl
          omega
        have q7 : vf_n64 (FP.ddiv pb dn) := n64_of (nn_of (FP.Core.ddiv_out q4.nan fdn hnz))
        obtain ⟨x, σ2, τ2, u1, u2, u3, u4, u5, u6, u7, u8⟩ := use_ok (n := n) g2 hM
        have m2 : MV now σ2 τ2 j := g1.congr (fun f h => u4 f j (by omega)) (fun f _ => u5 f j) (fun f h => u7 f j (by omega)) (fun f h => u8 f j (by omega))
        have f2 : frM j σ σ2 τ τ2 := g3.trans ⟨u6, fun f k _ h => u4 f k h, fun f k _ => u5 f k, fun f k _ h => u7 f k h, fun f k _ h => u8 f k h⟩
        have classK : ∀ (P : Int32 → ST → Prop), ((0 ≤ (Op.cmpValue (FP.dcmp x (FP.ddiv pb dn)) .g) → P 0 σ2) ∧ (¬ (0 ≤ (Op.cmpValue (FP.dcmp x (FP.ddiv pb dn)) .g)) → P 1 (upI σ2 53 j 0))) → wp_X3_hits n σ j P := by
          intro P hP
          unfold wp_X3_hits
          refine ⟨hj, fun _ s2 e2 => ?_, fun q => absurd hlo q⟩
          rw [← ev] at e2
          have e53 : sI s2 53 j = v := by rw [e2, sI_upI, if_pos ⟨rfl, rfl⟩]
          have eD : ∀ f, sD s2 f j = sD σ f j := fun f => by rw [e2]; rfl
          simp only [eD, e53]
          rw [← epb, ← edn]
          refine ⟨q1.n64, q2.n64, q3.n64, q4.n64, q5.n64, q6.n64, fun q => absurd q hz, fun _ => ?_⟩
          rw [e2]
          refine u1 _ ⟨q7, fun h => ⟨fun _ => hP.1 h, fun q => absurd trivial q⟩, fun h => ⟨fun q => absurd q (by decide), fun _ s7 e7 => ?_⟩⟩
          subst e7
          exact hP.2 h
        have modK : ∀ (K : Int32 → ST → Prop), ((0 ≤ (Op.cmpValue (FP.dcmp x (FP.ddiv pb dn)) .g) → K 0 τ2) ∧ (¬ (0 ≤ (Op.cmpValue (FP.dcmp x (FP.ddiv pb dn)) .g)) → K 2 (upI τ2 1013 j 0))) → wp_X9_look_J123 (nI j) K τ := by
          intro K hP
          unfold wp_X9_look_J123
          rw [hc, ← a5, ← a1, ← a2]
          refine ⟨hin, hin, fun _ => ⟨hin, hin, fun _ => ⟨hin, hin, fun s8 e8 => ?_⟩, fun q => absurd h3 q⟩, fun q => absurd hlo q⟩
          rw [← a6, ← ev] at e8
          have e53 : sI s8 1013 j = v := by rw [e8, sI_upI, if_pos ⟨rfl, rfl⟩]
          have e12 : sD s8 1012 j = sD σ 52 j := by rw [e8, a5]; rfl
          have e08 : sD s8 1008 j = sD σ 48 j := by rw [e8, a1]; rfl
          have e09 : sD s8 1009 j = sD σ 49 j := by rw [e8, a2]; rfl
          have e10 : sD s8 1010 j = sD σ 50 j := by rw [e8, a3]; rfl
          simp only [e12, e08, e09, e10, e53]
          rw [← epb, ← edn]
          refine ⟨hin, hin, hin, q1.n64, q2.n64, hin, hin, q3.n64, q4.n64, hin, q5.n64, q6.n64, fun q => absurd q hz2, fun _ => ?_⟩
          rw [e8]
          refine u2 _ ⟨q7, fun h => ?_, fun h => ?_⟩
          · unfold wp_X9_look_J255
            exact ⟨fun _ => ⟨fun _ => hP.1 h, fun q => absurd rfl q⟩, fun q => absurd rfl q⟩
          · unfold wp_X9_look_J250 wp_X9_look_J255
            refine ⟨fun q => absurd q (by decide), fun _ => ⟨hin, fun s16 e16 => ⟨fun q => absurd q (by decide), fun _ => ?_⟩⟩⟩
            rw [hc] at e16
            subst e16
            exact hP.2 h
        by_cases hx : 0 ≤ (Op.cmpValue (FP.dcmp x (FP.ddiv pb dn)) .g)
        · refine ⟨0, σ2, τ2, fun A B E hA _ _ => ?_, fun K hK => modK K ⟨fun _ => hK, fun q => absurd hx q⟩, Or.inl rfl, m2, u3, f2⟩
          unfold wp_X3_refuses
          exact ⟨hj, fun q => absurd q h1, fun _ => ⟨fun _ => classK _ ⟨fun _ => ⟨fun _ => hA rfl, fun q => absurd rfl q⟩, fun q => absurd hx q⟩, fun q => absurd rfl q⟩⟩
        · refine ⟨2, upI σ2 53 j 0, upI τ2 1013 j 0, fun A B E _ hB _ => ?_, fun K hK => modK K ⟨fun q => absurd q hx, fun _ => hK⟩, Or.inr (Or.inr rfl), ?_, ?_, f2.trans ⟨fun _ _ => rfl, fun f k q _ => by rw [sI_upI, if_neg (by omega)], fun _ _ _ => rfl, fun f k q _ => by rw [sI_upI, if_neg (by omega)], fun _ _ _ _ => rfl⟩⟩
          · unfold wp_X3_refuses
            exact ⟨hj, fun q => absurd q h1, fun _ => ⟨fun _ => classK _ ⟨fun q => absurd q hx, fun _ => ⟨fun q => absurd q (by decide), fun _ => hB rfl⟩⟩, fun q => absurd rfl q⟩⟩
          · obtain ⟨⟨b1, b2, b3, b4, b5, b6, b7⟩, E2, E3, E4, E5, E6, E7, e', E8, E9⟩ := m2
            unfold MV
            simp only [sI_upI, sD_upI]
            simp only [true_and, and_true, if_true, false_and, if_false, show ¬ ((54 : Nat) = 53) by decide, show ¬ ((1014 : Nat) = 1013) by decide]
            exact ⟨⟨b1, b2, b3, b4, b5, b7⟩, E2, E3, E4, E5, E6, E7, e', E8, E9⟩
          · exact u3.congr (by rw [sI_upI, if_neg (by omega)]) (by rw [sI_upI, if_neg (by omega)]) (fun _ => rfl) (by rw [sI_upI, if_neg (by omega)]) (fun _ => rfl)
    · obtain ⟨g1, g2, g3⟩ := hset (-1)
      refine ⟨0, upI σ 53 j (-1), upI τ 1013 j (-1), fun A B E hA _ _ => ?_, fun K hK => ?_, Or.inl rfl, g1, g2, g3⟩
      · unfold wp_X3_refuses
        refine ⟨hj, fun q => absurd q h1, fun _ => ⟨fun _ => ?_, fun q => absurd rfl q⟩⟩
        unfold wp_X3_hits
        refine ⟨hj, fun q => absurd q hlo, fun _ s8 e8 => ?_⟩
        subst e8
        exact ⟨fun _ => hA rfl, fun q => absurd rfl q⟩
      · unfold wp_X9_look_J123
        rw [hc, ← a5, ← a1, ← a2]
        exact ⟨hin, hin, fun q => absurd q hlo, fun _ => ⟨hin, fun s22 e22 => by subst e22; exact hK⟩⟩
