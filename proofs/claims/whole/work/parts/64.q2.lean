/-- the first packet taken off a queue -/
theorem remQ {n j b : Nat} {σ : ST} {t : List Nat} (hj : j < 6) (hb : b < n) (h96 : sR σ 96 j = some b) (h97 : sR σ 97 j = (b :: t).getLast?) (hch : chain (sR σ 87) (b :: t)) (hnd : (b :: t).Nodup) :
    ∃ σ', (∀ K : ST → Prop, K σ' → wp_X6_removeFirst n σ j K) ∧ sR σ' 96 j = t.head? ∧ sR σ' 97 j = t.getLast? ∧ chain (sR σ' 87) t ∧ (∀ q, q ≠ b → sR σ' 87 q = sR σ 87 q) ∧ sR σ' 87 b = none ∧ (∀ f k, ¬ (f = 96 ∧ k = j) → ¬ (f = 97 ∧ k = j) → f ≠ 87 → sR σ' f k = sR σ f k) ∧
      sI σ' 98 j = sI σ 98 j - 1 ∧ sI σ' 99 j = sI σ 99 j - sI σ 82 b ∧ (∀ f k, ¬ (f = 98 ∧ k = j) → ¬ (f = 99 ∧ k = j) → sI σ' f k = sI σ f k) ∧ (∀ f k, sD σ' f k = sD σ f k) := by
  obtain ⟨c1, c2⟩ := chain_tail hch
  have hbt : b ∉ t := (List.nodup_cons.mp hnd).1
  cases ht : t with
  | nil =>
    subst ht
    have c1 : sR σ 87 b = none := c1
    refine ⟨upI (upI (upR (upR (upR σ 96 j none) 97 j none) 87 b none) 98 j (sI σ 98 j - 1)) 99 j (sI σ 99 j - sI σ 82 b), fun K hK => ?_, ?_, ?_, ?_, ?_, ?_, ?_, ?_, ?_, ?_, ?_⟩
    · unfold wp_X6_removeFirst
      refine ⟨hj, fun h => ?_, fun b2 hb2 => ?_⟩
      · rw [h96] at h; cases h
      · rw [h96] at hb2; cases hb2
        refine ⟨hb, fun s5 e5 => ?_⟩
        subst e5
        rw [c1]
        refine ⟨fun _ => ?_, fun b6 h6 => ?_⟩
        · intro s8 e8 s9 e9 s10 e10 s11 e11
          subst e8; subst e9; subst e10; subst e11
          simpa [sI_upI, sI_upR] using hK
        · simp [sR_upR] at h6
    · simp [sR_upI, sR_upR]
    · simp [sR_upI, sR_upR]
    · trivial
    · intro q hq; simp [sR_upI, sR_upR, hq]
    · simp [sR_upI, sR_upR]
    · intro f k h1 h2 h3; simp [sR_upI, sR_upR, h1, h2, h3]
    · simp [sI_upI, sI_upR]
    · simp [sI_upI, sI_upR]
    · intro f k h1 h2; simp [sI_upI, sI_upR, h1, h2]
    · intro f k; rfl
  | cons q u =>
    have c1 : sR σ 87 b = some q := by rw [c1, ht]; rfl
    refine ⟨upI (upI (upR (upR σ 96 j (some q)) 87 b none) 98 j (sI σ 98 j - 1)) 99 j (sI σ 99 j - sI σ 82 b), fun K hK => ?_, ?_, ?_, ?_, ?_, ?_, ?_, ?_, ?_, ?_, ?_⟩
    · unfold wp_X6_removeFirst
      refine ⟨hj, fun h => ?_, fun b2 hb2 => ?_⟩
      · rw [h96] at h; cases h
      · rw [h96] at hb2; cases hb2
        refine ⟨hb, fun s5 e5 => ?_⟩
        subst e5
        rw [c1]
        refine ⟨fun h6 => ?_, fun b6 _ => ?_⟩
        · simp [sR_upR] at h6
        · intro s9 e9 s10 e10 s11 e11
          subst e9; subst e10; subst e11
          simpa [sI_upI, sI_upR] using hK
    · simp [sR_upI, sR_upR]
    · have : (b :: t).getLast? = t.getLast? := by rw [ht]; simp [List.getLast?_cons_cons]
      rw [← ht, ← this, ← h97]; simp [sR_upI, sR_upR]
    · rw [← ht]
      refine chain_congr (fun p hp => ?_) c2
      have : p ≠ b := fun e => hbt (e ▸ hp)
      simp [sR_upI, sR_upR, this]
    · intro q hq; simp [sR_upI, sR_upR, hq]
    · simp [sR_upI, sR_upR]
    · intro f k h1 h2 h3; simp [sR_upI, sR_upR, h1, h3]
    · simp [sI_upI, sI_upR]
    · simp [sI_upI, sI_upR]
    · intro f k h1 h2; simp [sI_upI, sI_upR, h1, h2]
    · intro f k; rfl
/-- the class's round is the list rd -/
def RC (σ : ST) (rd : List Nat) : Prop := sR σ 112 0 = rd.head? ∧ sR σ 113 0 = rd.getLast? ∧ chain (sR σ 39) rd ∧ rd.Nodup ∧ (∀ i ∈ rd, i < 6) ∧ ∀ i, i ∉ rd → sR σ 39 i = none
theorem RC.congr {σ σ' : ST} {rd : List Nat} (h : RC σ rd) (h1 : sR σ' 112 0 = sR σ 112 0) (h2 : sR σ' 113 0 = sR σ 113 0) (h3 : ∀ i, sR σ' 39 i = sR σ 39 i) : RC σ' rd :=
  ⟨by rw [h1]; exact h.1, by rw [h2]; exact h.2.1, chain_congr (fun p _ => h3 p) h.2.2.1, h.2.2.2.1, h.2.2.2.2.1, fun i hi => by rw [h3 i]; exact h.2.2.2.2.2 i hi⟩
theorem joinT {n a : Nat} {σ : ST} {rd : List Nat} (h : RC σ rd) (ha : a ∉ rd) (ha6 : a < 6) :
    ∃ σ', (∀ K : ST → Prop, K σ' → wp_X7_join n σ a K) ∧ RC σ' (rd ++ [a]) ∧ (∀ f k, f ≠ 112 → f ≠ 113 → f ≠ 39 → sR σ' f k = sR σ f k) ∧ (∀ f k, sI σ' f k = sI σ f k) ∧ (∀ f k, sD σ' f k = sD σ f k) := by
  obtain ⟨h1, h2, h3, h4, h5, h6⟩ := h
  have hnd : (rd ++ [a]).Nodup := by
    rw [List.nodup_append]
    exact ⟨h4, by simp, fun x hx y hy e => ha (by simp at hy; rw [← hy, ← e]; exact hx)⟩
  have hlt : ∀ i ∈ rd ++ [a], i < 6 := fun i hi => by
    rcases List.mem_append.mp hi with h | h
    · exact h5 i h
    · simp at h; rw [h]; exact ha6
  cases hl : rd.getLast? with
  | none =>
    have e : rd = [] := List.getLast?_eq_none_iff.mp hl
    subst e
    refine ⟨upR (upR σ 112 0 (some a)) 113 0 (some a), fun K hK => ?_, ⟨?_, ?_, ?_, hnd, hlt, ?_⟩, ?_, ?_, ?_⟩
    · unfold wp_X7_join
      refine ⟨fun _ s3 e3 s4 e4 => by subst e3; subst e4; exact hK, fun b hb => ?_⟩
      rw [h2] at hb; cases hb
    · simp [sR_upR]
    · simp [sR_upR]
    · show sR _ 39 a = none
      simp [sR_upR]; exact h6 a ha
    · intro i hi; simp [sR_upR]; exact h6 i (by simp)
    · intro f k g1 g2 g3; simp [sR_upR, g1, g2]
    · intro f k; rfl
    · intro f k; rfl
  | some b =>
    have hbl : b ∈ rd := List.mem_of_getLast? hl
    have hne : rd ≠ [] := by intro e; subst e; cases hl
    have hbp : b ≠ a := fun e => ha (e ▸ hbl)
    refine ⟨upR (upR σ 39 b (some a)) 113 0 (some a), fun K hK => ?_, ⟨?_, ?_, ?_, hnd, hlt, ?_⟩, ?_, ?_, ?_⟩
    · unfold wp_X7_join
      refine ⟨fun h => ?_, fun b1 hb1 => ⟨b, by rw [h2, hl], h5 b hbl, fun s8 e8 s9 e9 => by subst e8; subst e9; exact hK⟩⟩
      rw [h2, hl] at h; cases h
    · rw [head_push a hne, ← h1]; simp [sR_upR]
    · rw [last_push]; simp [sR_upR]
    · refine chain_push h4 ha h3 (fun q hq hl2 => ?_) (fun q hq => ?_) ?_
      · have : q ≠ b := fun e => hl2 (by rw [hl, e])
        simp [sR_upR, this]
      · rw [hl] at hq; cases hq; simp [sR_upR]
      · simp [sR_upR, Ne.symm hbp]; exact h6 a ha
    · intro i hi
      have g1 : i ∉ rd := fun h => hi (List.mem_append_left _ h)
      have : i ≠ b := fun e => g1 (e ▸ hbl)
      simp [sR_upR, this]; exact h6 i g1
    · intro f k g1 g2 g3; simp [sR_upR, g2, g3]
    · intro f k; rfl
    · intro f k; rfl
theorem takeT {n b : Nat} {σ : ST} {t : List Nat} (h : RC σ (b :: t)) :
    ∃ σ', (∀ K : Option Nat → ST → Prop, K (some b) σ' → wp_X7_takeFirst n σ K) ∧ RC σ' t ∧ (∀ f k, f ≠ 112 → f ≠ 113 → f ≠ 39 → sR σ' f k = sR σ f k) ∧ sI σ' 114 0 = 0 ∧ (∀ f k, f ≠ 114 → sI σ' f k = sI σ f k) ∧ (∀ f k, sD σ' f k = sD σ f k) := by
  obtain ⟨h1, h2, h3, h4, h5, h6⟩ := h
  obtain ⟨c1, c2⟩ := chain_tail h3
  have hbt := (List.nodup_cons.mp h4)
  have h1 : sR σ 112 0 = some b := h1
  have hout : ∀ i, i ∉ t → i ≠ b → sR σ 39 i = none := fun i g1 g2 => h6 i (fun g => by
    rcases List.mem_cons.mp g with g | g
    · exact g2 g
    · exact g1 g)
  cases ht : t with
  | nil =>
    subst ht
    have c1 : sR σ 39 b = none := c1
    refine ⟨upI (upR (upR (upR σ 112 0 none) 113 0 none) 39 b none) 114 0 0, fun K hK => ?_, ⟨?_, ?_, ?_, hbt.2, by simp, ?_⟩, ?_, ?_, ?_, ?_⟩
    · unfold wp_X7_takeFirst
      refine ⟨fun h => ?_, fun b1 hb1 => ?_⟩
      · rw [h1] at h; cases h
      · rw [h1] at hb1; cases hb1
        refine ⟨h5 b (by simp), fun s4 e4 => ?_⟩
        subst e4
        rw [c1]
        refine ⟨fun _ s7 e7 s8 e8 s9 e9 => by subst e7; subst e8; subst e9; exact hK, fun b5 hb5 => ?_⟩
        simp [sR_upR] at hb5
    · simp [sR_upI, sR_upR]
    · simp [sR_upI, sR_upR]
    · trivial
    · intro i _
      by_cases e : i = b
      · simp [sR_upI, sR_upR, e]
      · simp [sR_upI, sR_upR, e]; exact hout i (by simp) e
    · intro f k g1 g2 g3; simp [sR_upI, sR_upR, g1, g2, g3]
    · simp [sI_upI]
    · intro f k g; simp [sI_upI, sI_upR, g]
    · intro f k; rfl
  | cons q u =>
    have c1 : sR σ 39 b = some q := by rw [c1, ht]; rfl
    refine ⟨upI (upR (upR σ 112 0 (some q)) 39 b none) 114 0 0, fun K hK => ?_, ⟨?_, ?_, ?_, by rw [← ht]; exact hbt.2, fun i hi => h5 i (by rw [ht]; exact List.mem_cons_of_mem _ hi), ?_⟩, ?_, ?_, ?_, ?_⟩
    · unfold wp_X7_takeFirst
      refine ⟨fun h => ?_, fun b1 hb1 => ?_⟩
      · rw [h1] at h; cases h
      · rw [h1] at hb1; cases hb1
        refine ⟨h5 b (by simp), fun s4 e4 => ?_⟩
        subst e4
        rw [c1]
        refine ⟨fun h => ?_, fun b5 hb5 s7 e7 s8 e8 => by subst e7; subst e8; exact hK⟩
        simp [sR_upR] at h
    · simp [sR_upI, sR_upR]
    · have : (b :: t).getLast? = t.getLast? := by rw [ht]; simp [List.getLast?_cons_cons]
      rw [← ht, ← this, ← h2]; simp [sR_upI, sR_upR]
    · rw [← ht]
      refine chain_congr (fun p hp => ?_) c2
      have : p ≠ b := fun e => hbt.1 (e ▸ hp)
      simp [sR_upI, sR_upR, this]
    · intro i hi
      by_cases e : i = b
      · simp [sR_upI, sR_upR, e]
      · simp [sR_upI, sR_upR, e]; exact hout i (by rw [ht]; exact hi) e
    · intro f k g1 g2 g3; simp [sR_upI, sR_upR, g1, g3]
    · simp [sI_upI]
    · intro f k g; simp [sI_upI, sI_upR, g]
    · intro f k; rfl
theorem passT {n b : Nat} {σ : ST} {t : List Nat} (h : RC σ (b :: t)) :
    ∃ σ', (∀ K : ST → Prop, K σ' → wp_X7_passOn n σ K) ∧ RC σ' (t ++ [b]) ∧ (∀ f k, f ≠ 112 → f ≠ 113 → f ≠ 39 → sR σ' f k = sR σ f k) ∧ sI σ' 114 0 = 0 ∧ (∀ f k, f ≠ 114 → sI σ' f k = sI σ f k) ∧ (∀ f k, sD σ' f k = sD σ f k) := by
  have hb6 := h.2.2.2.2.1 b (by simp)
  have hbt := (List.nodup_cons.mp h.2.2.2.1).1
  obtain ⟨s1, k1, r1, f1, g1, g2, g3⟩ := takeT (n := n) h
  obtain ⟨s2, k2, r2, f2, g4, g5⟩ := joinT (n := n) r1 hbt hb6
  refine ⟨s2, fun K hK => ?_, r2, fun f k a1 a2 a3 => by rw [f2 f k a1 a2 a3, f1 f k a1 a2 a3], by rw [g4, g1], fun f k a => by rw [g4, g2 f k a], fun f k => by rw [g5, g3]⟩
  unfold wp_X7_passOn
  refine k1 _ ⟨fun h => (by cases h), fun b3 h3 => ?_⟩
  cases h3
  exact k2 _ hK
theorem leaveT {n b : Nat} {σ : ST} {t : List Nat} (h : RC σ (b :: t)) :
    ∃ σ', (∀ K : ST → Prop, K σ' → wp_X7_leave n σ K) ∧ RC σ' t ∧ (∀ f k, f ≠ 112 → f ≠ 113 → f ≠ 39 → sR σ' f k = sR σ f k) ∧ sI σ' 114 0 = 0 ∧ sI σ' 38 b = 0 ∧ (∀ f k, f ≠ 114 → ¬ (f = 38 ∧ k = b) → sI σ' f k = sI σ f k) ∧ (∀ f k, sD σ' f k = sD σ f k) := by
  have hb6 := h.2.2.2.2.1 b (by simp)
  obtain ⟨s1, k1, r1, f1, g1, g2, g3⟩ := takeT (n := n) h
  refine ⟨upI s1 38 b 0, fun K hK => ?_, r1.congr rfl rfl (fun _ => rfl), fun f k a1 a2 a3 => f1 f k a1 a2 a3, ?_, ?_, fun f k a1 a2 => ?_, fun f k => g3 f k⟩
  · unfold wp_X7_leave
    refine k1 _ ⟨fun h => (by cases h), fun b3 h3 => ?_⟩
    cases h3
    exact ⟨hb6, fun s6 e6 => by subst e6; exact hK⟩
  · rw [sI_upI, if_neg (by omega)]; exact g1
  · rw [sI_upI, if_pos ⟨rfl, rfl⟩]
  · rw [sI_upI, if_neg a2]; exact g2 f k a1
theorem beginT {n b : Nat} {σ : ST} {t : List Nat} (h : RC σ (b :: t)) :
    ∃ σ', (∀ K : ST → Prop, K σ' → wp_X7_begin n σ K) ∧ RC σ' (b :: t) ∧ (∀ f k, sR σ' f k = sR σ f k) ∧ (∀ f k, sD σ' f k = sD σ f k) ∧ (∀ f k, f ≠ 114 → f ≠ 38 → sI σ' f k = sI σ f k) ∧ (∀ k, k ≠ b → sI σ' 38 k = sI σ 38 k) ∧ sI σ' 114 0 ≠ 0 ∧ (sI σ 114 0 = 0 → sI σ' 114 0 = 1 ∧ sI σ' 38 b = sI σ 38 b + sI σ 37 b) ∧ (sI σ 114 0 ≠ 0 → sI σ' = sI σ) := by
  have hb6 := h.2.2.2.2.1 b (by simp)
  have h1 : sR σ 112 0 = some b := h.1
  by_cases hz : sI σ 114 0 = 0
  · refine ⟨upI (upI σ 38 b (sI σ 38 b + sI σ 37 b)) 114 0 1, fun K hK => ?_, h.congr rfl rfl (fun _ => rfl), fun _ _ => rfl, fun _ _ => rfl, fun f k a1 a2 => ?_, fun k a => ?_, ?_, fun _ => ⟨?_, ?_⟩, fun q => absurd hz q⟩
    · unfold wp_X7_begin
      refine ⟨fun q => (by rw [h1] at q; cases q), fun b1 _ => ⟨fun q => absurd hz q, fun _ => ⟨b, h1, hb6, b, h1, hb6, fun s9 e9 s10 e10 => by subst e9; subst e10; exact hK⟩⟩⟩
    · simp [sI_upI, a1, a2]
    · simp [sI_upI, a]
    · simp [sI_upI]
    · simp [sI_upI]
    · simp [sI_upI]
  · refine ⟨σ, fun K hK => ?_, h, fun _ _ => rfl, fun _ _ => rfl, fun _ _ _ _ => rfl, fun _ _ => rfl, hz, fun q => absurd q hz, fun _ => rfl⟩
    unfold wp_X7_begin
    exact ⟨fun q => (by rw [h1] at q; cases q), fun b1 _ => ⟨fun _ => hK, fun q => absurd q hz⟩⟩
