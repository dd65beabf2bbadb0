def SS (now : Nat) (σ τ : ST) : Prop := sI σ 132 0 = nI now ∧ sI τ 1001 0 = nI now ∧ now ≤ 512000 ∧ (∃ q : Nat, sI σ 133 0 = nI q) ∧ sI σ 133 0 = sI τ 1002 0 ∧ sI σ 136 0 = sI τ 1004 0 ∧ (∃ l : Nat, 1 ≤ l ∧ l ≤ 1000000 ∧ sI σ 136 0 = nI l) ∧ sD σ 137 0 = sD τ 1003 0 ∧ sD σ 138 0 = sD τ 1005 0 ∧ bd 1 80000 (sD σ 137 0) ∧ bd 0 5000000 (sD σ 138 0)
theorem SS.congr {now : Nat} {σ τ σ' τ' : ST} (h : SS now σ τ) (h1 : ∀ f, f = 132 ∨ f = 133 ∨ f = 136 → sI σ' f 0 = sI σ f 0) (h2 : ∀ f, f = 137 ∨ f = 138 → sD σ' f 0 = sD σ f 0) (h3 : ∀ f, f = 1001 ∨ f = 1002 ∨ f = 1004 → sI τ' f 0 = sI τ f 0) (h4 : ∀ f, f = 1003 ∨ f = 1005 → sD τ' f 0 = sD τ f 0) : SS now σ' τ' := by
  unfold SS
  rw [h1 132 (by omega), h1 133 (by omega), h1 136 (by omega), h2 137 (by omega), h2 138 (by omega), h3 1001 (by omega), h3 1002 (by omega), h3 1004 (by omega), h4 1003 (by omega), h4 1005 (by omega)]
  exact h
def SC1 (σ τ : ST) (j : Nat) : Prop := sI σ 40 j = sI τ 1029 (10 * j + 0) ∧ sI σ 41 j = sI τ 1029 (10 * j + 1) ∧ sI σ 43 j = sI τ 1029 (10 * j + 2) ∧ sI σ 44 j = sI τ 1029 (10 * j + 3) ∧ sI σ 45 j = sI τ 1029 (10 * j + 4) ∧ sI σ 46 j = sI τ 1029 (10 * j + 5) ∧ sI σ 42 j = sI τ 1029 (10 * j + 8)
def SC (σ τ : ST) : Prop := ∀ j, j < 6 → SC1 σ τ j
theorem SC1.congr {σ τ σ' τ' : ST} {j : Nat} (h : SC1 σ τ j) (h1 : ∀ f, 40 ≤ f ∧ f ≤ 46 → sI σ' f j = sI σ f j) (h2 : ∀ k, k < 10 → sI τ' 1029 (10 * j + k) = sI τ 1029 (10 * j + k)) : SC1 σ' τ' j := by
  unfold SC1
  rw [h1 40 (by omega), h1 41 (by omega), h1 42 (by omega), h1 43 (by omega), h1 44 (by omega), h1 45 (by omega), h1 46 (by omega), h2 0 (by omega), h2 1 (by omega), h2 2 (by omega), h2 3 (by omega), h2 4 (by omega), h2 5 (by omega), h2 8 (by omega)]
  exact h
def SK (σ τ : ST) : Prop := ∀ j, j < 6 → sI σ 32 j = nI j ∧ sI σ 36 j = sI τ 1006 j ∧ sI σ 37 j = sI τ 1007 j ∧ ∃ q : Nat, 1 ≤ q ∧ q ≤ 3000 ∧ sI σ 37 j = nI q
theorem SK.congr {σ τ σ' τ' : ST} (h : SK σ τ) (h1 : ∀ f j, f = 32 ∨ f = 36 ∨ f = 37 → sI σ' f j = sI σ f j) (h2 : ∀ f j, f = 1006 ∨ f = 1007 → sI τ' f j = sI τ f j) : SK σ' τ' := by
  intro j hj
  rw [h1 32 j (by omega), h1 36 j (by omega), h1 37 j (by omega), h2 1006 j (by omega), h2 1007 j (by omega)]
  exact h j hj
/-- the credits -/
def SF1 (σ τ : ST) (rd : List Nat) (j : Nat) : Prop := (j ∈ rd → sI σ 38 j = sI τ 1032 j) ∧ (j ∉ rd → sI σ 38 j = 0) ∧ ∃ d : Nat, sI σ 38 j = nI d ∧ d ≤ 4499 ∧ (d < 1500 ∨ (rd.head? = some j ∧ ¬ sI σ 114 0 = 0))
def SF (σ τ : ST) (rd : List Nat) : Prop := ∀ j, j < 6 → SF1 σ τ rd j
def SB (σ τ : ST) : Prop := sI σ 114 0 = sI τ 1033 0 ∧ isB (sI σ 114 0)
def live (qs : Nat → List Nat) (p : Nat) : Prop := ∃ j, j < 6 ∧ p ∈ qs j
def xc (X : Option Nat) : Nat := match X with
  | none => 0
  | some _ => 1
/-- what has been sent -/
def SL1 (n : Nat) (σ τ : ST) (qs : Nat → List Nat) (X : Option Nat) (k p : Nat) : Prop := p < n ∧ ¬ live qs p ∧ X ≠ some p ∧ (∃ j, j < 6 ∧ sR σ 81 p = some j ∧ sI τ 1037 (5 * k + 1) = nI j) ∧ sI τ 1037 (5 * k + 0) = sI σ 80 p ∧ sI τ 1037 (5 * k + 2) = sI σ 82 p ∧ sI τ 1037 (5 * k + 3) = sI σ 86 p ∧ sI τ 1037 (5 * k + 4) = (if sI σ 85 p = 0 then 0 else 1)
def SL (n : Nat) (σ τ : ST) (qs : Nat → List Nat) (X : Option Nat) : Prop := ∃ c : Nat, sI σ 65 0 = nI c ∧ c + tot (fun j => (qs j).length) + xc X ≤ n ∧ sI τ 1036 0 = nI (min c 32) ∧ (∀ y, y < 32 → c < 32 → (y = 0 ∨ c < y) → sR σ 64 y = none) ∧ ∀ k, k < min c 32 → ∃ p, sR σ 64 ((c - k) % 32) = some p ∧ SL1 n σ τ qs X k p
def RF (n : Nat) (σ : ST) : Prop := (∀ k p, sR σ 64 k = some p → p < n) ∧ (∀ k p, sR σ 87 k = some p → p < n)
def RQ (qs : Nat → List Nat) (rd : List Nat) : Prop := ∀ j, j < 6 → (j ∈ rd ↔ qs j ≠ [])
def dv (σ : ST) (j : Nat) : Nat := (sI σ 38 j).toNatClampNeg
def mu (σ : ST) (qs : Nat → List Nat) : Nat := 1502 * (tot fun j => (qs j).length) + (tot fun j => 1500 - dv σ j) + (sI σ 114 0).toNatClampNeg
/-- the class side and the model side stand alike -/
def Sim (n now : Nat) (qs : Nat → List Nat) (rd : List Nat) (X : Option Nat) (σ τ : ST) : Prop := SQ n σ τ qs ∧ SW σ qs ∧ SS now σ τ ∧ SC σ τ ∧ SK σ τ ∧ SF σ τ rd ∧ SB σ τ ∧ RC σ rd ∧ MR τ rd ∧ RQ qs rd ∧ SL n σ τ qs X ∧ RF n σ ∧ CV 600 σ τ ∧ (∀ j, j < 6 → DV (n - tot (fun j => (qs j).length)) σ τ j) ∧ (∀ j, j < 6 → MV now σ τ j) ∧ n ≤ 512
theorem SL.congr {n : Nat} {σ τ σ' τ' : ST} {qs qs' : Nat → List Nat} {X X' : Option Nat} (h : SL n σ τ qs X) (h1 : sI σ' 65 0 = sI σ 65 0) (h2 : sI τ' 1036 0 = sI τ 1036 0) (h3 : ∀ k, sI τ' 1037 k = sI τ 1037 k) (h4 : ∀ k, sR σ' 64 k = sR σ 64 k) (h5 : ∀ k, sR σ' 81 k = sR σ 81 k) (h6 : ∀ f p, f = 80 ∨ f = 82 ∨ f = 85 ∨ f = 86 → ¬ live qs p → X ≠ some p → sI σ' f p = sI σ f p) (h7 : ∀ p, (live qs' p ∨ X' = some p) → (live qs p ∨ X = some p)) (h8 : tot (fun j => (qs' j).length) + xc X' ≤ tot (fun j => (qs j).length) + xc X) : SL n σ' τ' qs' X' := by
  obtain ⟨c, a1, a2, a3, a5, a4⟩ := h
  refine ⟨c, by rw [h1]; exact a1, by omega, by rw [h2]; exact a3, fun y hy hc hz => by rw [h4]; exact a5 y hy hc hz, fun k hk => ?_⟩
  obtain ⟨p, b1, b2, b3, b4, ⟨j, b5, b6, b7⟩, b8, b9, b10, b11⟩ := a4 k hk
  refine ⟨p, by rw [h4]; exact b1, b2, fun q => ?_, fun q => ?_, ⟨j, b5, by rw [h5]; exact b6, by rw [h3]; exact b7⟩, ?_, ?_, ?_, ?_⟩
  · rcases h7 p (Or.inl q) with q | q
    · exact b3 q
    · exact b4 q
  · rcases h7 p (Or.inr q) with q | q
    · exact b3 q
    · exact b4 q
  · rw [h3, h6 80 p (by omega) b3 b4]; exact b8
  · rw [h3, h6 82 p (by omega) b3 b4]; exact b9
  · rw [h3, h6 86 p (by omega) b3 b4]; exact b10
  · rw [h3, h6 85 p (by omega) b3 b4]; exact b11
theorem SQ.congr {n : Nat} {σ τ σ' τ' : ST} {qs : Nat → List Nat} (h : SQ n σ τ qs) (hl : ∀ j, j < 6 → (qs j).length ≤ 100) (h1 : ∀ f k, f = 96 ∨ f = 97 ∨ f = 81 → sR σ' f k = sR σ f k) (h3 : ∀ p, live qs p → sR σ' 87 p = sR σ 87 p) (h5 : ∀ f p, 80 ≤ f ∧ f ≤ 85 → live qs p → sI σ' f p = sI σ f p) (h6 : ∀ f j, f = 98 ∨ f = 99 → sI σ' f j = sI σ f j) (h8 : ∀ k, sI τ' 1023 k = sI τ 1023 k) (h9 : ∀ f k, inArr f → sI τ' f k = sI τ f k) : SQ n σ' τ' qs := fun j hj =>
  (h j hj).congr (h1 96 j (by omega)) (h1 97 j (by omega)) (fun p hp => h3 p ⟨j, hj, hp⟩) (fun p _ => h1 81 p (by omega)) (fun f p hf hp => h5 f p hf ⟨j, hj, hp⟩) (h6 98 j (by omega)) (h6 99 j (by omega)) (h8 j) (fun f k hf _ => h9 f _ hf)
theorem SW.congr {σ σ' : ST} {qs : Nat → List Nat} (h : SW σ qs) (h1 : ∀ f, f = 134 ∨ f = 135 → sI σ' f 0 = sI σ f 0) (h2 : ∀ p, live qs p → sI σ' 82 p = sI σ 82 p) : SW σ' qs := by
  refine ⟨by rw [h1 134 (by omega)]; exact h.1, h.2.1, ?_⟩
  rw [h1 135 (by omega), h.2.2]
  exact congrArg nI (tot_congr (fun j hj => (byt_congr (fun p hp => h2 p ⟨j, hj, hp⟩)).symm))
theorem SW.len {σ : ST} {qs : Nat → List Nat} (h : SW σ qs) : ∀ j, j < 6 → (qs j).length ≤ 100 := fun j hj => Nat.le_trans (tot_le (f := fun j => (qs j).length) hj) h.2.1
theorem isB_nat {v : Int32} (h : isB v) : v.toNatClampNeg ≤ 1 := by
  rcases h with h | h <;> subst h <;> decide
theorem SF1.val {σ τ : ST} {rd : List Nat} {j : Nat} (h : SF1 σ τ rd j) : ∃ d : Nat, sI σ 38 j = nI d ∧ dv σ j = d ∧ d ≤ 4499 ∧ (d < 1500 ∨ (rd.head? = some j ∧ ¬ sI σ 114 0 = 0)) := by
  obtain ⟨_, _, d, h1, h2, h3⟩ := h
  refine ⟨d, h1, ?_, h2, h3⟩
  unfold dv
  rw [h1, nI_clamp (by omega)]
/-- the turn's beginning, both sides -/
theorem begin_ok {n now b : Nat} {σ τ : ST} {qs : Nat → List Nat} {t : List Nat} (h : Sim n now qs (b :: t) none σ τ) :
    ∃ σ' τ', (∀ K : ST → Prop, K σ' → wp_X7_begin n σ K) ∧ (∀ (K : Int32 → ST → Prop) (fu : Nat), wp_X9_choose_J45 τ K (wp_X9_choose_L0 K fu) τ' → wp_X9_choose_L0 K (fu + 1) τ) ∧ Sim n now qs (b :: t) none σ' τ' ∧ sI σ' 114 0 = 1 ∧ mu σ' qs ≤ mu σ qs ∧ b < 6 ∧ sI τ 1031 0 = nI b ∧ sD σ' 138 0 = sD σ 138 0 ∧ sI τ' 1000 0 = sI τ 1000 0 := by
  obtain ⟨hQ, hW, hS, hC, hK, hF, hB, hR, hM, hRQ, hL, hRF, hCV, hDV, hMV, hn⟩ := h
  have hb6 := hR.2.2.2.2.1 b (by simp)
  have h31 : sI τ 1031 0 = nI b := hM.2 0 b rfl
  have hin : vp_in (nI b) 6 := vp_in_nI hb6 (by decide)
  have hc : (nI b).toNatClampNeg = b := nI_clamp (by omega)
  have h6 := len6 hR.2.2.2.1 hR.2.2.2.2.1
  have hpos : ¬ sI τ 1030 0 ≤ 0 := by rw [hM.1]; exact nI_nle (by simp) (by omega)
  obtain ⟨σ', k1, r1, r2, r3, r4, r5, r6, r7, r8⟩ := beginT (n := n) hR
  by_cases hz : sI σ 114 0 = 0
  · obtain ⟨g1, g2⟩ := r7 hz
    obtain ⟨_, _, _, q, hq1, hq2, hq3⟩ := hK b hb6
    obtain ⟨d, d1, d2, d3, d4⟩ := (hF b hb6).val
    have hd : d < 1500 := by
      rcases d4 with w | w
      · exact w
      · exact absurd hz w.2
    have e38 : sI σ' 38 b = nI (d + q) := by rw [g2, d1, hq3, nI_add]
    have e32 : sI τ 1032 b = nI d := by rw [← (hF b hb6).1 (by simp)]; exact d1
    have e07 : sI τ 1007 b = nI q := by rw [← (hK b hb6).2.2.1]; exact hq3
    have hI : ∀ f k, f ≠ 114 → ¬ (f = 38 ∧ k = b) → sI σ' f k = sI σ f k := fun f k w1 w2 => by
      by_cases w : f = 38
      · subst w; exact r5 k (fun e => w2 ⟨rfl, e⟩)
      · exact r4 f k w1 w
    obtain ⟨τ', eτ⟩ : ∃ z, z = upI (upI τ 1033 0 1) 1032 b (nI (d + q)) := ⟨_, rfl⟩
    have hT : ∀ f k, f ≠ 1033 → ¬ (f = 1032 ∧ k = b) → sI τ' f k = sI τ f k := fun f k w1 w2 => by
      rw [eτ]; simp only [sI_upI]; rw [if_neg w2, if_neg (fun w => w1 w.1)]
    have t32 : sI τ' 1032 b = nI (d + q) := by rw [eτ]; simp only [sI_upI]; rw [if_pos (by simp)]
    have t33 : sI τ' 1033 0 = 1 := by rw [eτ]; simp only [sI_upI]; rw [if_neg (by omega), if_pos (by simp)]
    have hTD : ∀ f k, sD τ' f k = sD τ f k := fun f k => by rw [eτ]; rfl
    refine ⟨σ', τ', k1, fun K fu hJ => ⟨fun w => absurd w hpos, fun _ => ⟨vp_in_nI (n := 0) (by decide) (by decide), fun w => ?_, fun _ s24 e24 => ?_⟩⟩, ⟨?_, ?_, ?_, ?_, ?_, ?_, ?_, r1, ?_, hRQ, ?_, ?_, ?_, ?_, ?_, hn⟩, g1, ?_, hb6, h31, r3 138 0, hT 1000 0 (by omega) (by omega)⟩
    · exact absurd (by rw [← hB.1]; exact hz) w
    · have z31 : sI τ 1031 (0 : Int32).toNatClampNeg = nI b := h31
      rw [z31, hc]
      refine ⟨hin, hin, hin, fun s28 e28 => ?_⟩
      have : s28 = τ' := by rw [e28, e24, sI_upI, if_neg (by omega), sI_upI, if_neg (by omega), e32, e07, nI_add, eτ]
      rw [this]; exact hJ
    · exact hQ.congr hW.len (fun f k _ => r2 f k) (fun p _ => r2 87 p) (fun f p hf _ => hI f p (by omega) (by omega)) (fun f j hf => hI f j (by omega) (by omega)) (fun k => hT 1023 k (by omega) (by omega)) (fun f k hf => hT f k (by omega) (by omega))
    · exact hW.congr (fun f hf => hI f 0 (by omega) (by omega)) (fun p _ => hI 82 p (by omega) (by omega))
    · exact hS.congr (fun f hf => hI f 0 (by omega) (by omega)) (fun f _ => r3 f 0) (fun f hf => hT f 0 (by omega) (by omega)) (fun f _ => hTD f 0)
    · exact fun j hj => (hC j hj).congr (fun f hf => hI f j (by omega) (by omega)) (fun k _ => hT _ _ (by omega) (by omega))
    · exact hK.congr (fun f j hf => hI f j (by omega) (by omega)) (fun f j hf => hT f j (by omega) (by omega))
    · intro j hj
      by_cases e : j = b
      · subst e
        exact ⟨fun _ => by rw [e38, t32], fun w => absurd (by simp) w, d + q, e38, by omega, Or.inr ⟨rfl, r6⟩⟩
      · obtain ⟨w1, w2, d', w3, w4, w5⟩ := hF j hj
        have e1 : sI σ' 38 j = sI σ 38 j := r5 j e
        have e2 : sI τ' 1032 j = sI τ 1032 j := hT 1032 j (by omega) (by omega)
        refine ⟨fun w => by rw [e1, e2]; exact w1 w, fun w => by rw [e1]; exact w2 w, d', by rw [e1]; exact w3, w4, ?_⟩
        rcases w5 with w | w
        · exact Or.inl w
        · exact absurd hz w.2
    · exact ⟨by rw [g1, t33], by rw [g1]; exact isB1⟩
    · exact hM.congr (hT 1030 0 (by omega) (by omega)) (fun k => hT 1031 k (by omega) (by omega))
    · exact hL.congr (hI 65 0 (by omega) (by omega)) (hT 1036 0 (by omega) (by omega)) (fun k => hT 1037 k (by omega) (by omega)) (fun k => r2 64 k) (fun k => r2 81 k) (fun f p hf _ _ => hI f p (by omega) (by omega)) (fun _ w => w) (Nat.le_refl _)
    · exact ⟨fun k p hk => hRF.1 k p (by rw [← r2]; exact hk), fun k p hk => hRF.2 k p (by rw [← r2]; exact hk)⟩
    · exact hCV.congr (hI 1 0 (by omega) (by omega)) (hI 2 0 (by omega) (by omega)) (fun k => r3 0 k) (hT 1034 0 (by omega) (by omega)) (fun k => hTD 1035 k)
    · exact fun j hj => (hDV j hj).congr (fun f hf => hI f j (by omega) (by omega)) (fun f _ => r3 f j) (fun f hf => hT f j (by omega) (by omega)) (fun f _ => hTD f j)
    · exact fun j hj => (hMV j hj).congr (fun f hf => hI f j (by omega) (by omega)) (fun f _ => r3 f j) (fun f hf => hT f j (by omega) (by omega)) (fun f _ => hTD f j)
    · have hdv : dv σ' b = d + q := by unfold dv; rw [e38, nI_clamp (by omega)]
      have ht := tot_up (f := fun j => 1500 - dv σ j) (g := fun j => 1500 - dv σ' j) hb6 (fun j hj => by
        have : dv σ' j = dv σ j := by unfold dv; rw [r5 j hj]
        rw [this])
      simp only [hdv, d2] at ht
      have z1 : (sI σ' 114 0).toNatClampNeg = 1 := by rw [g1]; decide
      have z0 : (sI σ 114 0).toNatClampNeg = 0 := by rw [hz]; decide
      unfold mu
      rw [z1, z0]
      omega
  · have hz1 : sI σ 114 0 = 1 := by
      rcases hB.2 with w | w
      · exact absurd w hz
      · exact w
    have e := r8 hz
    have hI : ∀ f k, sI σ' f k = sI σ f k := fun f k => by rw [e]
    refine ⟨σ', τ, k1, fun K fu hJ => ⟨fun w => absurd w hpos, fun _ => ⟨vp_in_nI (n := 0) (by decide) (by decide), fun _ => hJ, fun w => absurd (by rw [hB.1]; exact w) hz⟩⟩, ⟨?_, ?_, ?_, ?_, ?_, ?_, ?_, r1, hM, hRQ, ?_, ?_, ?_, ?_, ?_, hn⟩, by rw [hI]; exact hz1, ?_, hb6, h31, r3 138 0, rfl⟩
    · exact hQ.congr hW.len (fun f k _ => r2 f k) (fun p _ => r2 87 p) (fun f p hf _ => hI f p) (fun f j hf => hI f j) (fun k => rfl) (fun f k hf => rfl)
    · exact hW.congr (fun f hf => hI f 0) (fun p _ => hI 82 p)
    · exact hS.congr (fun f hf => hI f 0) (fun f _ => r3 f 0) (fun f hf => rfl) (fun f _ => rfl)
    · exact fun j hj => (hC j hj).congr (fun f hf => hI f j) (fun k _ => rfl)
    · exact hK.congr (fun f j hf => hI f j) (fun f j hf => rfl)
    · intro j hj
      unfold SF1
      rw [hI 38 j, hI 114 0]
      exact hF j hj
    · unfold SB
      rw [hI 114 0]
      exact hB
    · exact hL.congr (hI 65 0) rfl (fun k => rfl) (fun k => r2 64 k) (fun k => r2 81 k) (fun f p hf _ _ => hI f p) (fun _ w => w) (Nat.le_refl _)
    · exact ⟨fun k p hk => hRF.1 k p (by rw [← r2]; exact hk), fun k p hk => hRF.2 k p (by rw [← r2]; exact hk)⟩
    · exact hCV.congr (hI 1 0) (hI 2 0) (fun k => r3 0 k) rfl (fun k => rfl)
    · exact fun j hj => (hDV j hj).congr (fun f hf => hI f j) (fun f _ => r3 f j) (fun f hf => rfl) (fun f _ => rfl)
    · exact fun j hj => (hMV j hj).congr (fun f hf => hI f j) (fun f _ => r3 f j) (fun f hf => rfl) (fun f _ => rfl)
    · have : mu σ' qs = mu σ qs := by
        unfold mu dv
        simp only [hI]
      omega
