def tot (f : Nat → Nat) : Nat := f 0 + f 1 + f 2 + f 3 + f 4 + f 5
theorem tot_up {f g : Nat → Nat} {b : Nat} (hb : b < 6) (h : ∀ j, j ≠ b → g j = f j) : tot g + f b = tot f + g b := by
  unfold tot
  rcases (show b = 0 ∨ b = 1 ∨ b = 2 ∨ b = 3 ∨ b = 4 ∨ b = 5 by omega) with rfl | rfl | rfl | rfl | rfl | rfl
  · have h1 := h 1 (by omega); have h2 := h 2 (by omega); have h3 := h 3 (by omega); have h4 := h 4 (by omega); have h5 := h 5 (by omega); omega
  · have h1 := h 0 (by omega); have h2 := h 2 (by omega); have h3 := h 3 (by omega); have h4 := h 4 (by omega); have h5 := h 5 (by omega); omega
  · have h1 := h 0 (by omega); have h2 := h 1 (by omega); have h3 := h 3 (by omega); have h4 := h 4 (by omega); have h5 := h 5 (by omega); omega
  · have h1 := h 0 (by omega); have h2 := h 1 (by omega); have h3 := h 2 (by omega); have h4 := h 4 (by omega); have h5 := h 5 (by omega); omega
  · have h1 := h 0 (by omega); have h2 := h 1 (by omega); have h3 := h 2 (by omega); have h4 := h 3 (by omega); have h5 := h 5 (by omega); omega
  · have h1 := h 0 (by omega); have h2 := h 1 (by omega); have h3 := h 2 (by omega); have h4 := h 3 (by omega); have h5 := h 4 (by omega); omega
theorem tot_congr {f g : Nat → Nat} (h : ∀ j, j < 6 → g j = f j) : tot g = tot f := by
  unfold tot
  rw [h 0 (by omega), h 1 (by omega), h 2 (by omega), h 3 (by omega), h 4 (by omega), h 5 (by omega)]
theorem tot_le {f : Nat → Nat} {j : Nat} (hj : j < 6) : f j ≤ tot f := by
  unfold tot
  rcases (show j = 0 ∨ j = 1 ∨ j = 2 ∨ j = 3 ∨ j = 4 ∨ j = 5 by omega) with rfl | rfl | rfl | rfl | rfl | rfl <;> omega
def byt (σ : ST) (l : List Nat) : Nat := (l.map fun p => (sI σ 82 p).toNatClampNeg).sum
theorem byt_congr {σ σ' : ST} {l : List Nat} (h : ∀ p ∈ l, sI σ' 82 p = sI σ 82 p) : byt σ' l = byt σ l := by
  unfold byt
  rw [List.map_congr_left (fun p hp => by rw [h p hp])]
def qset (qs : Nat → List Nat) (b : Nat) (l : List Nat) : Nat → List Nat := fun j => if j = b then l else qs j
theorem qset_s (qs : Nat → List Nat) (b : Nat) (l : List Nat) : qset qs b l b = l := if_pos rfl
theorem qset_n {qs : Nat → List Nat} {b j : Nat} (l : List Nat) (h : j ≠ b) : qset qs b l j = qs j := if_neg h
/-- a packet of the class j -/
def okP (n : Nat) (σ : ST) (j p : Nat) : Prop := p < n ∧ sR σ 81 p = some j ∧ (∃ b : Nat, 1 ≤ b ∧ b ≤ 1500 ∧ sI σ 82 p = nI b) ∧ isB (sI σ 84 p) ∧ isB (sI σ 85 p)
theorem okP.congr {n : Nat} {σ σ' : ST} {j p : Nat} (h : okP n σ j p) (h1 : sR σ' 81 p = sR σ 81 p) (h2 : ∀ f, f = 82 ∨ f = 84 ∨ f = 85 → sI σ' f p = sI σ f p) : okP n σ' j p := by
  unfold okP
  rw [h1, h2 82 (by omega), h2 84 (by omega), h2 85 (by omega)]
  exact h
def SQ1 (n : Nat) (σ τ : ST) (j : Nat) (l : List Nat) : Prop := sR σ 96 j = l.head? ∧ sR σ 97 j = l.getLast? ∧ chain (sR σ 87) l ∧ l.Nodup ∧ (∀ p ∈ l, okP n σ j p) ∧ sI σ 98 j = nI l.length ∧ sI σ 99 j = nI (byt σ l) ∧ QM σ τ j l
theorem SQ1.congr {n : Nat} {σ τ σ' τ' : ST} {j : Nat} {l : List Nat} (h : SQ1 n σ τ j l) (h1 : sR σ' 96 j = sR σ 96 j) (h2 : sR σ' 97 j = sR σ 97 j) (h3 : ∀ p ∈ l, sR σ' 87 p = sR σ 87 p) (h4 : ∀ p ∈ l, sR σ' 81 p = sR σ 81 p) (h5 : ∀ f p, 80 ≤ f ∧ f ≤ 85 → p ∈ l → sI σ' f p = sI σ f p) (h6 : sI σ' 98 j = sI σ 98 j) (h7 : sI σ' 99 j = sI σ 99 j) (h8 : sI τ' 1023 j = sI τ 1023 j) (h9 : ∀ f k, inArr f → k < l.length → sI τ' f (100 * j + k) = sI τ f (100 * j + k)) : SQ1 n σ' τ' j l := by
  obtain ⟨a1, a2, a3, a4, a5, a6, a7, a8⟩ := h
  refine ⟨by rw [h1]; exact a1, by rw [h2]; exact a2, chain_congr h3 a3, a4, fun p hp => (a5 p hp).congr (h4 p hp) (fun f hf => h5 f p (by omega) hp), by rw [h6]; exact a6, ?_, a8.congr h8 h9 (fun f p hf hp => h5 f p (by omega) hp)⟩
  rw [h7, byt_congr (fun p hp => h5 82 p (by omega) hp)]
  exact a7
def SQ (n : Nat) (σ τ : ST) (qs : Nat → List Nat) : Prop := ∀ j, j < 6 → SQ1 n σ τ j (qs j)
theorem SQ.apart {n : Nat} {σ τ : ST} {qs : Nat → List Nat} (h : SQ n σ τ qs) {i j p : Nat} (hi : i < 6) (hj : j < 6) (h1 : p ∈ qs i) (h2 : p ∈ qs j) : i = j := by
  have a := ((h i hi).2.2.2.2.1 p h1).2.1
  have b := ((h j hj).2.2.2.2.1 p h2).2.1
  rw [a] at b
  exact Option.some.inj b
def SW (σ : ST) (qs : Nat → List Nat) : Prop := sI σ 134 0 = nI (tot fun j => (qs j).length) ∧ (tot fun j => (qs j).length) ≤ 100 ∧ sI σ 135 0 = nI (tot fun j => byt σ (qs j))
theorem byt_pos {n : Nat} {σ : ST} {j p : Nat} (h : okP n σ j p) : ∃ b : Nat, 1 ≤ b ∧ b ≤ 1500 ∧ sI σ 82 p = nI b ∧ (sI σ 82 p).toNatClampNeg = b := by
  obtain ⟨b, h1, h2, h3⟩ := h.2.2.1
  exact ⟨b, h1, h2, h3, by rw [h3, nI_clamp (by omega)]⟩
/-- the first packet of the class b taken out, both sides -/
theorem take_ok {n now b p : Nat} {σ τ : ST} {qs : Nat → List Nat} {t : List Nat} (hb : b < 6) (hQ : SQ n σ τ qs) (hW : SW σ qs) (hnow : sI σ 132 0 = nI now) (hq : qs b = p :: t) :
    ∃ σ' τ', (∀ K : ST → Prop, K σ' → wp_X8_takeOut n σ p K) ∧ (∀ K : ST → Prop, K τ' → wp_X9_takeOut τ (nI b) K) ∧ SQ n σ' τ' (qset qs b t) ∧ SW σ' (qset qs b t) ∧ okP n σ' b p ∧ sI σ' 86 p = nI now - sI σ 83 p ∧
      sI τ' 1038 0 = sI σ 80 p ∧ sI τ' 1039 0 = sI σ 82 p ∧ sI τ' 1040 0 = sI σ 83 p ∧ sI τ' 1041 0 = sI σ 84 p ∧ sI τ' 1042 0 = sI σ 85 p ∧ sI τ' 1014 b = (if t = [] then sI τ 1001 0 else sI τ 1014 b) ∧
      (∀ q, q ≠ p → sR σ' 87 q = sR σ 87 q) ∧ (∀ q, sR σ' 87 q = none ∨ sR σ' 87 q = sR σ 87 q) ∧ (∀ f k, f ≠ 96 → f ≠ 97 → f ≠ 87 → sR σ' f k = sR σ f k) ∧ (∀ f k, f ≠ 98 → f ≠ 99 → f ≠ 134 → f ≠ 135 → ¬ (f = 86 ∧ k = p) → sI σ' f k = sI σ f k) ∧ (∀ f k, sD σ' f k = sD σ f k) ∧
      (∀ f k, ¬ inArr f → f ≠ 1014 → f ≠ 1023 → ¬ (1038 ≤ f ∧ f ≤ 1042) → sI τ' f k = sI τ f k) ∧ (∀ k, k ≠ b → sI τ' 1014 k = sI τ 1014 k) ∧ (∀ f k, sD τ' f k = sD τ f k) := by
  have hQb := hQ b hb
  rw [hq] at hQb
  obtain ⟨a1, a2, a3, a4, a5, a6, a7, a8⟩ := hQb
  have hp := a5 p (by simp)
  have hpt : p ∉ t := (List.nodup_cons.mp a4).1
  have hlen : (p :: t).length ≤ 100 := by
    have := tot_le (f := fun j => (qs j).length) hb
    simp only [hq] at this
    exact Nat.le_trans this hW.2.1
  obtain ⟨bp, b1, b2, b3, b4⟩ := byt_pos hp
  obtain ⟨s1, k1, r1, r2, r3, r4, r4b, r5, r6, r7, r8, r9⟩ := remQ (n := n) (σ := σ) hb hp.1 a1 a2 a3 a4
  obtain ⟨τ', m1, m2, m3, m4, m5, m6, m7, m8, m9, m10, m11⟩ := takeOM (σ := σ) (τ := τ) hb (by simpa using hlen) a8 (fun q hq => ⟨(a5 q hq).2.2.2.1, (a5 q hq).2.2.2.2⟩)
  have hbyt : byt σ (p :: t) = bp + byt σ t := by unfold byt; simp [b4]
  have e82 : sI s1 82 p = nI bp := by rw [r8 82 p (by omega) (by omega)]; exact b3
  have hT := tot_up (f := fun j => (qs j).length) (g := fun j => (qset qs b t j).length) hb (fun j hj => by rw [qset_n t hj])
  have hTb := tot_up (f := fun j => byt σ (qs j)) (g := fun j => byt σ (qset qs b t j)) hb (fun j hj => by rw [qset_n t hj])
  simp only [qset_s, hq, hbyt, List.length_cons] at hT hTb
  obtain ⟨σ', eσ⟩ : ∃ z, z = upI (upI (upI s1 134 0 (nI (tot fun j => (qset qs b t j).length))) 135 0 (nI (tot fun j => byt σ (qset qs b t j)))) 86 p (nI now - sI σ 83 p) := ⟨_, rfl⟩
  have hI : ∀ f k, f ≠ 98 → f ≠ 99 → f ≠ 134 → f ≠ 135 → ¬ (f = 86 ∧ k = p) → sI σ' f k = sI σ f k := by
    intro f k g1 g2 g3 g4 g5
    rw [eσ]
    simp only [sI_upI]
    rw [if_neg g5, if_neg (by omega), if_neg (by omega)]
    exact r8 f k (by omega) (by omega)
  have hI2 : ∀ f k, f = 98 ∨ f = 99 → sI σ' f k = sI s1 f k := by
    intro f k g
    rw [eσ]
    simp only [sI_upI]
    rw [if_neg (by omega), if_neg (by omega), if_neg (by omega)]
  have hR : ∀ f k, sR σ' f k = sR s1 f k := by intro f k; rw [eσ]; rfl
  have hb82 : ∀ l : List Nat, byt σ' l = byt σ l := fun l => byt_congr (fun q _ => hI 82 q (by omega) (by omega) (by omega) (by omega) (by omega))
  refine ⟨σ', τ', fun K hK => ?_, m1, fun j hj => ?_, ⟨?_, ?_, ?_⟩, ?_, ?_, m4, m5, m6, m7, m8, m9, fun q hq => by rw [hR]; exact r4 q hq, fun q => ?_, fun f k g1 g2 g3 => by rw [hR]; exact r5 f k (by omega) (by omega) g3, hI, fun f k => by rw [eσ]; exact r9 f k, fun f k g1 g2 g3 g4 => m10 f k g1 (by omega) (by omega) g4, fun k hk => m10 1014 k (by omega) (by omega) (by omega) (by omega), m11⟩
  · unfold wp_X8_takeOut
    refine ⟨hp.1, b, hp.2.1, hb, hb, k1 _ (fun s7 e7 s8 e8 s9 e9 => ?_)⟩
    have h134 : sI s1 134 0 - 1 = nI (tot fun j => (qset qs b t j).length) := by
      rw [r8 134 0 (by omega) (by omega), hW.1]
      have := pk_sub (a := tot fun j => (qs j).length) (b := 1) (by omega)
      rw [show ((1 : Int32)) = nI 1 from rfl, this]
      congr 1; omega
    have h135 : sI s7 135 0 - sI s7 82 p = nI (tot fun j => byt σ (qset qs b t j)) := by
      rw [e7, sI_upI, if_neg (by omega), sI_upI, if_neg (by omega), e82, r8 135 0 (by omega) (by omega), hW.2.2, pk_sub (by omega)]
      congr 1; omega
    have h86 : sI s8 132 0 - sI s8 83 p = nI now - sI σ 83 p := by
      rw [e8, e7]
      simp only [sI_upI]
      rw [if_neg (by omega), if_neg (by omega), if_neg (by omega), if_neg (by omega), r8 132 0 (by omega) (by omega), r8 83 p (by omega) (by omega), hnow]
    have : s9 = σ' := by rw [e9, h86, e8, h135, e7, h134, eσ]
    rw [this]; exact hK
  · by_cases e : j = b
    · subst e
      rw [qset_s]
      refine ⟨by rw [hR]; exact r1, by rw [hR]; exact r2, chain_congr (fun q _ => hR 87 q) r3, (List.nodup_cons.mp a4).2, fun q hq2 => (a5 q (List.mem_cons_of_mem _ hq2)).congr (by rw [hR]; exact r5 81 q (by omega) (by omega) (by omega)) (fun f hf => hI f q (by omega) (by omega) (by omega) (by omega) (by omega)), ?_, ?_, m2.congr rfl (fun _ _ _ _ => rfl) (fun f q hf _ => hI f q (by omega) (by omega) (by omega) (by omega) (by omega))⟩
      · rw [hI2 98 j (by omega), r6, a6]
        exact nI_pred t.length
      · rw [hI2 99 j (by omega), r7, a7, hb82, hbyt, b3, pk_sub (by omega)]
        congr 1; omega
    · rw [qset_n t e]
      have hj1 := hQ j hj
      have hlj : (qs j).length ≤ 100 := Nat.le_trans (tot_le (f := fun j => (qs j).length) hj) hW.2.1
      have hpj : ∀ q ∈ qs j, q ≠ p := fun q hq2 e2 => e (hQ.apart hj hb hq2 (by rw [hq, e2]; simp))
      have c1 : SQ1 n σ' τ j (qs j) := hj1.congr (by rw [hR]; exact r5 96 j (by omega) (by omega) (by omega)) (by rw [hR]; exact r5 97 j (by omega) (by omega) (by omega)) (fun q hq2 => by rw [hR]; exact r4 q (hpj q hq2)) (fun q _ => by rw [hR]; exact r5 81 q (by omega) (by omega) (by omega)) (fun f q hf _ => hI f q (by omega) (by omega) (by omega) (by omega) (by omega)) (by rw [hI2 98 j (by omega)]; exact r8 98 j (by omega) (by omega)) (by rw [hI2 99 j (by omega)]; exact r8 99 j (by omega) (by omega)) rfl (fun _ _ _ _ => rfl)
      obtain ⟨d1, d2, d3, d4, d5, d6, d7, d8⟩ := c1
      exact ⟨d1, d2, d3, d4, d5, d6, d7, (m3 j (qs j) e hlj hj1.2.2.2.2.2.2.2).congr rfl (fun _ _ _ _ => rfl) (fun f q hf _ => hI f q (by omega) (by omega) (by omega) (by omega) (by omega))⟩
  · rw [eσ]
    simp only [sI_upI]
    rw [if_neg (by omega), if_neg (by omega), if_pos (by simp)]
  · have := hW.2.1
    omega
  · have h135 : sI σ' 135 0 = nI (tot fun j => byt σ (qset qs b t j)) := by
      rw [eσ]
      simp only [sI_upI]
      rw [if_neg (by omega), if_pos (by simp)]
    rw [h135]
    exact congrArg nI (tot_congr (fun j _ => (hb82 _).symm))
  · exact hp.congr (by rw [hR]; exact r5 81 p (by omega) (by omega) (by omega)) (fun f hf => hI f p (by omega) (by omega) (by omega) (by omega) (by omega))
  · rw [eσ, sI_upI, if_pos ⟨rfl, rfl⟩]
  · by_cases e : q = p
    · left
      rw [hR, e]
      -- the packet taken off points to none
      exact r4b
    · right
      rw [hR]; exact r4 q e
