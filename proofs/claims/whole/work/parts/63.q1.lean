/-! the pure part: queues and the round as lists -/
def chain (R : Nat → Option Nat) : List Nat → Prop
  | [] => True
  | [p] => R p = none
  | p :: q :: l => R p = some q ∧ chain R (q :: l)
theorem chain_congr {R S : Nat → Option Nat} : ∀ {l : List Nat}, (∀ p ∈ l, S p = R p) → chain R l → chain S l
  | [], _, _ => trivial
  | [p], h, c => by
    show S p = none
    rw [h p (by simp)]; exact c
  | p :: q :: l, h, c => by
    refine ⟨?_, chain_congr (fun x hx => h x (List.mem_cons_of_mem _ hx)) c.2⟩
    rw [h p (by simp)]; exact c.1
theorem chain_tail {R : Nat → Option Nat} {p : Nat} {l : List Nat} (h : chain R (p :: l)) : R p = l.head? ∧ chain R l := by
  cases l with
  | nil => exact ⟨h, trivial⟩
  | cons q l => exact ⟨h.1, h.2⟩
theorem chain_push {R S : Nat → Option Nat} {p : Nat} : ∀ {l : List Nat}, l.Nodup → p ∉ l → chain R l → (∀ q ∈ l, some q ≠ l.getLast? → S q = R q) → (∀ q, l.getLast? = some q → S q = some p) → S p = none → chain S (l ++ [p])
  | [], _, _, _, _, _, h3 => h3
  | [a], _, _, _, _, h2, h3 => ⟨h2 a rfl, h3⟩
  | a :: b :: l, hn, hp, c, h1, h2, h3 => by
    have hn2 := (List.nodup_cons.mp hn)
    have e : (a :: b :: l).getLast? = (b :: l).getLast? := by simp [List.getLast?_cons_cons]
    refine ⟨?_, ?_⟩
    · rw [h1 a (by simp)]
      · exact c.1
      · rw [e]
        intro q
        exact hn2.1 (List.mem_of_getLast? q.symm)
    · refine chain_push (l := b :: l) hn2.2 (fun h => hp (List.mem_cons_of_mem _ h)) c.2 (fun q hq hl => h1 q (List.mem_cons_of_mem _ hq) (by rw [e]; exact hl)) (fun q hq => h2 q (by rw [e]; exact hq)) h3
theorem last_push (l : List Nat) (p : Nat) : (l ++ [p]).getLast? = some p := by simp
theorem head_push {l : List Nat} (p : Nat) (h : l ≠ []) : (l ++ [p]).head? = l.head? := by
  cases l with
  | nil => exact absurd rfl h
  | cons a l => rfl
/-- a packet more at the end of a queue -/
theorem addQ {n j p : Nat} {σ : ST} {l : List Nat} (hj : j < 6) (hp : p < n) (h96 : sR σ 96 j = l.head?) (h97 : sR σ 97 j = l.getLast?) (hch : chain (sR σ 87) l) (hnd : l.Nodup) (hpl : p ∉ l) (hpn : sR σ 87 p = none) (hln : ∀ q ∈ l, q < n) :
    ∃ σ', (∀ K : ST → Prop, K σ' → wp_X6_add n σ j p K) ∧ sR σ' 96 j = (l ++ [p]).head? ∧ sR σ' 97 j = (l ++ [p]).getLast? ∧ chain (sR σ' 87) (l ++ [p]) ∧ (∀ q, q ∉ l → sR σ' 87 q = sR σ 87 q) ∧ (∀ f k, ¬ (f = 96 ∧ k = j) → ¬ (f = 97 ∧ k = j) → f ≠ 87 → sR σ' f k = sR σ f k) ∧
      sI σ' 98 j = sI σ 98 j + 1 ∧ sI σ' 99 j = sI σ 99 j + sI σ 82 p ∧ (∀ f k, ¬ (f = 98 ∧ k = j) → ¬ (f = 99 ∧ k = j) → sI σ' f k = sI σ f k) ∧ (∀ f k, sD σ' f k = sD σ f k) := by
  cases hl : l.getLast? with
  | none =>
    have e : l = [] := List.getLast?_eq_none_iff.mp hl
    subst e
    refine ⟨upI (upI (upR (upR σ 96 j (some p)) 97 j (some p)) 98 j (sI σ 98 j + 1)) 99 j (sI σ 99 j + sI σ 82 p), fun K hK => ?_, ?_, ?_, ?_, ?_, ?_, ?_, ?_, ?_, ?_⟩
    · unfold wp_X6_add
      refine ⟨hj, fun _ => ?_, fun b hb => ?_⟩
      · intro s4 e4 s5 e5 s6 e6
        refine ⟨hp, fun s8 e8 => ?_⟩
        subst e4; subst e5; subst e6; subst e8
        simpa [sI_upI, sI_upR] using hK
      · rw [h97] at hb; cases hb
    · simp [sR_upI, sR_upR]
    · simp [sR_upI, sR_upR]
    · show sR _ 87 p = none
      simp [sR_upI, sR_upR, hpn]
    · intro q _; simp [sR_upI, sR_upR]
    · intro f k h1 h2 h3; simp [sR_upI, sR_upR, h1, h2]
    · simp [sI_upI, sI_upR]
    · simp [sI_upI, sI_upR]
    · intro f k h1 h2; simp [sI_upI, sI_upR, h1, h2]
    · intro f k; rfl
  | some b =>
    have hbl : b ∈ l := List.mem_of_getLast? hl
    have hne : l ≠ [] := by intro e; subst e; cases hl
    have hbp : b ≠ p := fun e => hpl (e ▸ hbl)
    refine ⟨upI (upI (upR (upR σ 87 b (some p)) 97 j (some p)) 98 j (sI σ 98 j + 1)) 99 j (sI σ 99 j + sI σ 82 p), fun K hK => ?_, ?_, ?_, ?_, ?_, ?_, ?_, ?_, ?_, ?_⟩
    · unfold wp_X6_add
      refine ⟨hj, fun h => ?_, fun b2 hb => ?_⟩
      · rw [h97, hl] at h; cases h
      · refine ⟨b, by rw [h97, hl], hln b hbl, ?_⟩
        intro s4 e4 s5 e5 s6 e6
        refine ⟨hp, fun s8 e8 => ?_⟩
        subst e4; subst e5; subst e6; subst e8
        simpa [sI_upI, sI_upR] using hK
    · rw [head_push p hne, ← h96]; simp [sR_upI, sR_upR]
    · rw [last_push]; simp [sR_upI, sR_upR]
    · refine chain_push hnd hpl hch (fun q hq hl2 => ?_) (fun q hq => ?_) ?_
      · have : q ≠ b := fun e => hl2 (by rw [hl, e])
        simp [sR_upI, sR_upR, this]
      · rw [hl] at hq; cases hq; simp [sR_upI, sR_upR]
      · simp [sR_upI, sR_upR, hpn, Ne.symm hbp]
    · intro q hq
      have : q ≠ b := fun e => hq (e ▸ hbl)
      simp [sR_upI, sR_upR, this]
    · intro f k h1 h2 h3; simp [sR_upI, sR_upR, h2, h3]
    · simp [sI_upI, sI_upR]
    · simp [sI_upI, sI_upR]
    · intro f k h1 h2; simp [sI_upI, sI_upR, h1, h2]
    · intro f k; rfl
