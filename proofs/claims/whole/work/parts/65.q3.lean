theorem lenN : ∀ (n : Nat) (l : List Nat), l.Nodup → (∀ i ∈ l, i < n) → l.length ≤ n
  | 0, l, _, h => by
    cases l with
    | nil => exact Nat.le_refl 0
    | cons a l => exact absurd (h a (by simp)) (by omega)
  | n + 1, l, hn, h => by
    by_cases hm : n ∈ l
    · have h1 := lenN n (l.erase n) (hn.erase n) (fun i hi => by
        have h2 := (hn.mem_erase_iff).mp hi
        have h3 := h i h2.2
        have := h2.1
        omega)
      have h2 := List.length_erase_of_mem hm
      have h3 : 0 < l.length := List.length_pos_of_mem hm
      omega
    · have := lenN n l hn (fun i hi => by
        have h3 := h i hi
        have : i ≠ n := fun e => hm (e ▸ hi)
        omega)
      omega
theorem len6 {rd : List Nat} (hn : rd.Nodup) (h : ∀ i ∈ rd, i < 6) : rd.length ≤ 6 := lenN 6 rd hn h
/-- the model's round is the list rd -/
def MR (τ : ST) (rd : List Nat) : Prop := sI τ 1030 0 = nI rd.length ∧ ∀ (k i : Nat), rd[k]? = some i → sI τ 1031 k = nI i
theorem MR.congr {τ τ' : ST} {rd : List Nat} (h : MR τ rd) (h1 : sI τ' 1030 0 = sI τ 1030 0) (h2 : ∀ k, sI τ' 1031 k = sI τ 1031 k) : MR τ' rd := ⟨by rw [h1]; exact h.1, fun k i hk => by rw [h2]; exact h.2 k i hk⟩
theorem leaveR_loop {z0 : ST} {L : Nat} (hL : L ≤ 5) (hz : sI z0 1030 0 = nI L) : ∀ (d x : Nat) (z : ST), x + d = L → (∀ f k, f ≠ 1031 → sI z f k = sI z0 f k) → (∀ k, k < x → sI z 1031 k = sI z0 1031 (k + 1)) → (∀ k, x ≤ k → sI z 1031 k = sI z0 1031 k) → (∀ f k, sD z f k = sD z0 f k) →
    ∃ z', (∀ K : ST → Prop, K z' → wp_X9_leaveRound_L12 K (d + 1) z (nI x)) ∧ (∀ k, k < L → sI z' 1031 k = sI z0 1031 (k + 1)) ∧ sI z' 1033 0 = 0 ∧ (∀ f k, f ≠ 1031 → f ≠ 1033 → sI z' f k = sI z0 f k) ∧ (∀ f k, sD z' f k = sD z0 f k) := by
  intro d
  induction d with
  | zero =>
    intro x z hx h1 h2 h3 h4
    have e : x = L := by omega
    subst e
    refine ⟨upI z 1033 0 0, fun K hK => ⟨fun _ s2 e2 => (by subst e2; exact hK), fun q => ?_⟩, fun k hk => ?_, ?_, fun f k a b => ?_, fun f k => h4 f k⟩
    · rw [h1 1030 0 (by decide), hz] at q
      exact absurd (nI_le (Nat.le_refl x) (by omega)) q
    · rw [sI_upI, if_neg (by omega)]; exact h2 k hk
    · rw [sI_upI, if_pos ⟨rfl, rfl⟩]
    · rw [sI_upI, if_neg (fun q => b q.1)]; exact h1 f k a
  | succ d ih =>
    intro x z hx h1 h2 h3 h4
    obtain ⟨z', k', r⟩ := ih (x + 1) (upI z 1031 x (sI z 1031 (x + 1))) (by omega) (fun f k a => by rw [sI_upI, if_neg (fun q => a q.1)]; exact h1 f k a)
      (fun k hk => by
        rw [sI_upI]
        by_cases e : k = x
        · subst e; rw [if_pos ⟨rfl, rfl⟩]; exact h3 _ (by omega)
        · rw [if_neg (fun q => e q.2)]; exact h2 k (by omega))
      (fun k hk => by rw [sI_upI, if_neg (by omega)]; exact h3 k (by omega)) (fun f k => h4 f k)
    refine ⟨z', fun K hK => ⟨fun q => ?_, fun _ => ⟨?_, ?_, fun s5 e5 => ?_⟩⟩, r⟩
    · rw [h1 1030 0 (by decide), hz] at q
      exact absurd q (nI_ge (by omega) (by omega))
    · rw [nI_1]; exact vp_in_nI (by omega) (by decide)
    · exact vp_in_nI (by omega) (by decide)
    · subst e5
      rw [nI_1, nI_clamp (by omega), nI_clamp (by omega)]
      exact k' K hK
theorem leaveR {τ : ST} {b : Nat} {t : List Nat} (h : MR τ (b :: t)) (hl : t.length ≤ 5) :
    ∃ z', (∀ K : ST → Prop, K z' → wp_X9_leaveRound τ K) ∧ MR z' t ∧ sI z' 1033 0 = 0 ∧ (∀ f k, f ≠ 1030 → f ≠ 1031 → f ≠ 1033 → sI z' f k = sI τ f k) ∧ (∀ f k, sD z' f k = sD τ f k) := by
  have hz : sI (upI τ 1030 0 (sI τ 1030 0 - 1)) 1030 0 = nI t.length := by
    rw [sI_upI, if_pos ⟨rfl, rfl⟩, h.1]
    exact nI_pred t.length
  obtain ⟨z', k', h1, h2, h3, h4⟩ := leaveR_loop hl hz t.length 0 _ (by omega) (fun _ _ _ => rfl) (fun k hk => absurd hk (by omega)) (fun _ _ => rfl) (fun _ _ => rfl)
  refine ⟨z', fun K hK => ?_, ⟨by rw [h3 1030 0 (by decide) (by decide)]; exact hz, fun k i hk => ?_⟩, h2, fun f k a b c => ?_, fun f k => h4 f k⟩
  · unfold wp_X9_leaveRound
    intro s1 e1
    subst e1
    exact ⟨_, k' K hK⟩
  · rw [h1 k (List.getElem?_eq_some_iff.mp hk).1, sI_upI, if_neg (by omega)]
    exact h.2 (k + 1) i (by simpa using hk)
  · rw [h3 f k b c, sI_upI, if_neg (fun q => a q.1)]
/-- the model's queue shifted -/
abbrev inArr (f : Nat) : Prop := 1024 ≤ f ∧ f ≤ 1028
theorem takeO_loop {z0 : ST} {a L : Nat} (ha : a < 6) (hL : L ≤ 99) (hz : sI z0 1023 a = nI L) (hB : ∀ k, k < L → isB (sI z0 1027 (100 * a + k + 1)) ∧ isB (sI z0 1028 (100 * a + k + 1))) : ∀ (d x : Nat) (z : ST), x + d = L → (∀ f k, ¬ inArr f → sI z f k = sI z0 f k) → (∀ f k, inArr f → 100 * a ≤ k → k < 100 * a + x → sI z f k = sI z0 f (k + 1)) → (∀ f k, inArr f → ¬ (100 * a ≤ k ∧ k < 100 * a + x) → sI z f k = sI z0 f k) → (∀ f k, sD z f k = sD z0 f k) →
    ∃ z', (∀ K : ST → Prop, K z' → wp_X9_takeOut_L67 (nI a) K (d + 1) z (nI (100 * a + x))) ∧ (∀ f k, inArr f → 100 * a ≤ k → k < 100 * a + L → sI z' f k = sI z0 f (k + 1)) ∧ (∀ f k, inArr f → ¬ (100 * a ≤ k ∧ k < 100 * a + L) → sI z' f k = sI z0 f k) ∧ sI z' 1014 a = (if L = 0 then sI z0 1001 0 else sI z0 1014 a) ∧ (∀ f k, ¬ inArr f → ¬ (f = 1014 ∧ k = a) → sI z' f k = sI z0 f k) ∧ (∀ f k, sD z' f k = sD z0 f k) := by
  intro d
  induction d with
  | zero =>
    intro x z hx h1 h2 h3 h4
    have e : x = L := by omega
    subst e
    have n14 : ¬ inArr 1014 := by omega
    have n23 : ¬ inArr 1023 := by omega
    have n01 : ¬ inArr 1001 := by omega
    have hin : vp_in (nI a) 6 := vp_in_nI ha (by decide)
    have hc : (nI a).toNatClampNeg = a := nI_clamp (by omega)
    have hq : (100 : Int32) * nI a + nI x = nI (100 * a + x) := by rw [show (100 : Int32) = nI 100 from rfl, pk_mul, nI_add]
    by_cases hx0 : x = 0
    · refine ⟨upI z 1014 a (sI z 1001 0), fun K hK => ?_, fun f k g1 g2 g3 => ?_, fun f k g1 g2 => ?_, ?_, fun f k g1 g2 => ?_, fun f k => h4 f k⟩
      · unfold wp_X9_takeOut_L67
        rw [hc, h1 1023 a n23, hz, hq]
        refine ⟨hin, fun _ => ⟨hin, fun q => ?_, fun _ => ⟨hin, fun s19 e19 => by subst e19; exact hK⟩⟩, fun q => absurd (nI_le (Nat.le_refl _) (by omega)) q⟩
        subst hx0; exact absurd rfl q
      · omega
      · rw [sI_upI, if_neg (by omega)]; exact h3 f k g1 g2
      · rw [sI_upI, if_pos ⟨rfl, rfl⟩, if_pos hx0]; exact h1 _ _ n01
      · rw [sI_upI, if_neg g2]; exact h1 f k g1
    · refine ⟨z, fun K hK => ?_, fun f k g1 g2 g3 => h2 f k g1 g2 g3, fun f k g1 g2 => h3 f k g1 g2, ?_, fun f k g1 g2 => h1 f k g1, fun f k => h4 f k⟩
      · unfold wp_X9_takeOut_L67
        rw [hc, h1 1023 a n23, hz, hq]
        refine ⟨hin, fun _ => ⟨hin, fun _ => hK, fun q => ?_⟩, fun q => absurd (nI_le (Nat.le_refl _) (by omega)) q⟩
        exact absurd q (nI_ne0 (by omega) (by omega))
      · rw [if_neg hx0]; exact h1 _ _ n14
  | succ d ih =>
    intro x z hx h1 h2 h3 h4
    have n23 : ¬ inArr 1023 := by omega
    have hin : vp_in (nI a) 6 := vp_in_nI ha (by decide)
    have hc : (nI a).toNatClampNeg = a := nI_clamp (by omega)
    have hq : (100 : Int32) * nI a + nI L = nI (100 * a + L) := by rw [show (100 : Int32) = nI 100 from rfl, pk_mul, nI_add]
    have i1 : vp_in (nI (100 * a + x)) 600 := vp_in_nI (by omega) (by decide)
    have i2 : vp_in (nI (100 * a + x + 1)) 600 := vp_in_nI (by omega) (by decide)
    have e1 : (nI (100 * a + x)).toNatClampNeg = 100 * a + x := nI_clamp (by omega)
    have e2 : (nI (100 * a + x + 1)).toNatClampNeg = 100 * a + x + 1 := nI_clamp (by omega)
    have hB := hB x (by omega)
    obtain ⟨y, hy⟩ : ∃ y, y = 100 * a + x := ⟨_, rfl⟩
    have hsame : ∀ f, inArr f → sI z f (y + 1) = sI z0 f (y + 1) := fun f g => h3 f (y + 1) g (by omega)
    let w := upI (upI (upI (upI (upI z 1024 y (sI z 1024 (y + 1))) 1025 y (sI z 1025 (y + 1))) 1026 y (sI z 1026 (y + 1))) 1027 y (sI z 1027 (y + 1))) 1028 y (sI z 1028 (y + 1))
    have hw : ∀ f k, sI w f k = if inArr f ∧ k = y then sI z f (y + 1) else sI z f k := by
      intro f k
      show sI (upI (upI (upI (upI (upI z 1024 y (sI z 1024 (y + 1))) 1025 y (sI z 1025 (y + 1))) 1026 y (sI z 1026 (y + 1))) 1027 y (sI z 1027 (y + 1))) 1028 y (sI z 1028 (y + 1))) f k = _
      simp only [sI_upI]
      by_cases hk : k = y
      · subst hk
        by_cases g : inArr f
        · have : f = 1024 ∨ f = 1025 ∨ f = 1026 ∨ f = 1027 ∨ f = 1028 := by omega
          rcases this with rfl | rfl | rfl | rfl | rfl <;> simp [g]
        · have : f ≠ 1024 ∧ f ≠ 1025 ∧ f ≠ 1026 ∧ f ≠ 1027 ∧ f ≠ 1028 := by omega
          simp [g, this]
      · simp [hk]
    obtain ⟨z', k', r⟩ := ih (x + 1) w (by omega) (fun f k g => by rw [hw, if_neg (fun q => g q.1)]; exact h1 f k g)
      (fun f k g a1 a2 => by
        rw [hw]
        by_cases e : k = y
        · rw [if_pos ⟨g, e⟩, e]; exact hsame f g
        · rw [if_neg (fun q => e q.2)]; exact h2 f k g a1 (by omega))
      (fun f k g a1 => by rw [hw, if_neg (by omega)]; exact h3 f k g (by omega)) (fun f k => h4 f k)
    refine ⟨z', fun K hK => ?_, r⟩
    unfold wp_X9_takeOut_L67
    rw [hc, h1 1023 a n23, hz, hq, nI_1, e1, e2, ← hy]
    refine ⟨hin, fun q => absurd q (nI_ge (by omega) (by omega)), fun _ => ?_⟩
    rw [← hy] at i1 i2
    refine ⟨i2, i1, fun s22 e22 => ⟨i2, i1, fun s25 e25 => ⟨i2, i1, fun s28 e28 => ⟨i2, i1, ?_, fun s31 e31 => ⟨i2, i1, ?_, fun s35 e35 => ?_⟩⟩⟩⟩⟩
    · subst e22; subst e25; subst e28
      simp only [sI_upI]
      rw [if_neg (by omega), if_neg (by omega), if_neg (by omega), hsame 1027 (by omega), hy]
      exact hB.1
    · subst e22; subst e25; subst e28; subst e31
      simp only [sI_upI]
      rw [if_neg (by omega), if_neg (by omega), if_neg (by omega), if_neg (by omega), hsame 1028 (by omega), hy]
      exact hB.2
    · have : s35 = w := by
        subst e22; subst e25; subst e28; subst e31; subst e35
        show _ = upI (upI (upI (upI (upI z 1024 y (sI z 1024 (y + 1))) 1025 y (sI z 1025 (y + 1))) 1026 y (sI z 1026 (y + 1))) 1027 y (sI z 1027 (y + 1))) 1028 y (sI z 1028 (y + 1))
        simp [sI_upI]
      rw [this, show y + 1 = 100 * a + (x + 1) by omega]
      exact k' K hK
