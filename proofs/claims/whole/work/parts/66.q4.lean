/-- the model's queue of the class j holds the packets of l, as the class side's packets say -/
def QM (σ τ : ST) (j : Nat) (l : List Nat) : Prop := sI τ 1023 j = nI l.length ∧ ∀ (k p : Nat), l[k]? = some p → sI τ 1024 (100 * j + k) = sI σ 80 p ∧ sI τ 1025 (100 * j + k) = sI σ 82 p ∧ sI τ 1026 (100 * j + k) = sI σ 83 p ∧ sI τ 1027 (100 * j + k) = sI σ 84 p ∧ sI τ 1028 (100 * j + k) = sI σ 85 p
theorem QM.congr {σ τ σ' τ' : ST} {j : Nat} {l : List Nat} (h : QM σ τ j l) (h1 : sI τ' 1023 j = sI τ 1023 j) (h2 : ∀ f k, inArr f → k < l.length → sI τ' f (100 * j + k) = sI τ f (100 * j + k)) (h3 : ∀ f p, f = 80 ∨ f = 82 ∨ f = 83 ∨ f = 84 ∨ f = 85 → p ∈ l → sI σ' f p = sI σ f p) : QM σ' τ' j l := by
  refine ⟨by rw [h1]; exact h.1, fun k p hk => ?_⟩
  obtain ⟨a1, a2, a3, a4, a5⟩ := h.2 k p hk
  have hl := (List.getElem?_eq_some_iff.mp hk).1
  have hp := List.mem_of_getElem? hk
  refine ⟨?_, ?_, ?_, ?_, ?_⟩
  · rw [h2 1024 k (by omega) hl, h3 80 p (by omega) hp]; exact a1
  · rw [h2 1025 k (by omega) hl, h3 82 p (by omega) hp]; exact a2
  · rw [h2 1026 k (by omega) hl, h3 83 p (by omega) hp]; exact a3
  · rw [h2 1027 k (by omega) hl, h3 84 p (by omega) hp]; exact a4
  · rw [h2 1028 k (by omega) hl, h3 85 p (by omega) hp]; exact a5
/-- what the model's taking out makes -/
theorem takeOM {σ τ : ST} {a b : Nat} {t : List Nat} (ha : a < 6) (hl : t.length ≤ 99) (h : QM σ τ a (b :: t)) (hB : ∀ p ∈ b :: t, isB (sI σ 84 p) ∧ isB (sI σ 85 p)) :
    ∃ τ', (∀ K : ST → Prop, K τ' → wp_X9_takeOut τ (nI a) K) ∧ QM σ τ' a t ∧ (∀ (j : Nat) (l : List Nat), j ≠ a → l.length ≤ 100 → QM σ τ j l → QM σ τ' j l) ∧
      sI τ' 1038 0 = sI σ 80 b ∧ sI τ' 1039 0 = sI σ 82 b ∧ sI τ' 1040 0 = sI σ 83 b ∧ sI τ' 1041 0 = sI σ 84 b ∧ sI τ' 1042 0 = sI σ 85 b ∧ sI τ' 1014 a = (if t = [] then sI τ 1001 0 else sI τ 1014 a) ∧
      (∀ f k, ¬ inArr f → ¬ (f = 1014 ∧ k = a) → ¬ (f = 1023 ∧ k = a) → ¬ (1038 ≤ f ∧ f ≤ 1042) → sI τ' f k = sI τ f k) ∧ (∀ f k, sD τ' f k = sD τ f k) := by
  obtain ⟨w1, w2, w3, w4, w5⟩ := h.2 0 b rfl
  rw [Nat.add_zero] at w1 w2 w3 w4 w5
  have hb := hB b (by simp)
  let z := upI (upI (upI (upI (upI (upI τ 1038 0 (sI τ 1024 (100 * a))) 1039 0 (sI τ 1025 (100 * a))) 1040 0 (sI τ 1026 (100 * a))) 1041 0 (sI τ 1027 (100 * a))) 1042 0 (sI τ 1028 (100 * a))) 1023 a (nI t.length)
  have hz : ∀ f k, ¬ (f = 1023 ∧ k = a) → ¬ (1038 ≤ f ∧ f ≤ 1042) → sI z f k = sI τ f k := by
    intro f k g1 g2
    show sI (upI (upI (upI (upI (upI (upI τ 1038 0 (sI τ 1024 (100 * a))) 1039 0 (sI τ 1025 (100 * a))) 1040 0 (sI τ 1026 (100 * a))) 1041 0 (sI τ 1027 (100 * a))) 1042 0 (sI τ 1028 (100 * a))) 1023 a (nI t.length)) f k = _
    simp only [sI_upI]
    rw [if_neg g1, if_neg (by omega), if_neg (by omega), if_neg (by omega), if_neg (by omega), if_neg (by omega)]
  have hz3 : sI z 1023 a = nI t.length := by
    show sI (upI _ 1023 a (nI t.length)) 1023 a = _
    rw [sI_upI, if_pos ⟨rfl, rfl⟩]
  have hzz : sI z 1038 0 = sI σ 80 b ∧ sI z 1039 0 = sI σ 82 b ∧ sI z 1040 0 = sI σ 83 b ∧ sI z 1041 0 = sI σ 84 b ∧ sI z 1042 0 = sI σ 85 b := by
    refine ⟨?_, ?_, ?_, ?_, ?_⟩ <;> (show sI (upI (upI (upI (upI (upI (upI τ 1038 0 (sI τ 1024 (100 * a))) 1039 0 (sI τ 1025 (100 * a))) 1040 0 (sI τ 1026 (100 * a))) 1041 0 (sI τ 1027 (100 * a))) 1042 0 (sI τ 1028 (100 * a))) 1023 a (nI t.length)) _ 0 = _) <;> simp [sI_upI, w1, w2, w3, w4, w5]
  have hk : ∀ k, k < t.length → ∃ p, t[k]? = some p ∧ p ∈ t := fun k hk => ⟨t[k], by simp [hk], by simp⟩
  have ht1 : ∀ k p, t[k]? = some p → (b :: t)[k + 1]? = some p := fun k p hk => by simpa using hk
  obtain ⟨τ', k1, k2, k3, k4, k5, k6⟩ := takeO_loop (z0 := z) ha hl hz3 (fun k hk1 => by
    obtain ⟨p, hp, hm⟩ := hk k hk1
    obtain ⟨v1, v2, v3, v4, v5⟩ := h.2 (k + 1) p (ht1 k p hp)
    have := hB p (List.mem_cons_of_mem _ hm)
    rw [hz _ _ (by omega) (by omega), hz _ _ (by omega) (by omega), Nat.add_assoc, v4, v5]
    exact this) t.length 0 z (by omega) (fun _ _ _ => rfl) (fun f k _ g1 g2 => absurd g2 (by omega)) (fun _ _ _ _ => rfl) (fun _ _ => rfl)
  have hne : (t = []) = (t.length = 0) := by simp
  refine ⟨τ', fun K hK => ?_, ⟨?_, fun k p hp => ?_⟩, fun j l hj hl2 hq => ?_, ?_, ?_, ?_, ?_, ?_, ?_, fun f k g1 g2 g3 g4 => ?_, fun f k => k6 f k⟩
  · unfold wp_X9_takeOut
    have i6 : vp_in (nI a) 6 := vp_in_nI ha (by decide)
    have e0 : (100 : Int32) * nI a = nI (100 * a) := by rw [show (100 : Int32) = nI 100 from rfl, pk_mul]
    have i0 : vp_in (nI (100 * a)) 600 := vp_in_nI (by omega) (by decide)
    have ec : (nI (100 * a)).toNatClampNeg = 100 * a := nI_clamp (by omega)
    have ea : (nI a).toNatClampNeg = a := nI_clamp (by omega)
    rw [e0, ec, ea]
    refine ⟨i0, fun s2 e2 => ⟨i0, fun s4 e4 => ⟨i0, fun s6 e6 => ⟨i0, ?_, fun s8 e8 => ⟨i0, ?_, fun s11 e11 => ⟨i6, i6, fun s15 e15 => ?_⟩⟩⟩⟩⟩⟩
    · subst e2; subst e4; subst e6
      simp only [sI_upI]
      rw [if_neg (by omega), if_neg (by omega), if_neg (by omega), w4]; exact hb.1
    · subst e2; subst e4; subst e6; subst e8
      simp only [sI_upI]
      rw [if_neg (by omega), if_neg (by omega), if_neg (by omega), if_neg (by omega), w5]; exact hb.2
    · have : s15 = z := by
        subst e2; subst e4; subst e6; subst e8; subst e11; subst e15
        show _ = upI (upI (upI (upI (upI (upI τ 1038 0 (sI τ 1024 (100 * a))) 1039 0 (sI τ 1025 (100 * a))) 1040 0 (sI τ 1026 (100 * a))) 1041 0 (sI τ 1027 (100 * a))) 1042 0 (sI τ 1028 (100 * a))) 1023 a (nI t.length)
        simp only [sI_upI]
        simp only [show ¬ ((1025 : Nat) = 1038 ∧ 100 * a = 0) by omega, show ¬ ((1026 : Nat) = 1038 ∧ 100 * a = 0) by omega, show ¬ ((1026 : Nat) = 1039 ∧ 100 * a = 0) by omega, show ¬ ((1027 : Nat) = 1038 ∧ 100 * a = 0) by omega, show ¬ ((1027 : Nat) = 1039 ∧ 100 * a = 0) by omega, show ¬ ((1027 : Nat) = 1040 ∧ 100 * a = 0) by omega, show ¬ ((1028 : Nat) = 1038 ∧ 100 * a = 0) by omega, show ¬ ((1028 : Nat) = 1039 ∧ 100 * a = 0) by omega, show ¬ ((1028 : Nat) = 1040 ∧ 100 * a = 0) by omega, show ¬ ((1028 : Nat) = 1041 ∧ 100 * a = 0) by omega, show ¬ ((1023 : Nat) = 1038 ∧ a = 0) by omega, show ¬ ((1023 : Nat) = 1039 ∧ a = 0) by omega, show ¬ ((1023 : Nat) = 1040 ∧ a = 0) by omega, show ¬ ((1023 : Nat) = 1041 ∧ a = 0) by omega, show ¬ ((1023 : Nat) = 1042 ∧ a = 0) by omega, if_false]
        rw [h.1]
        rw [show nI (b :: t).length - 1 = nI t.length from nI_pred t.length]
      rw [this]
      exact ⟨t.length + 1, by have := k1 K hK; rw [Nat.add_zero] at this; exact this⟩
  · rw [k5 1023 a (by omega) (by omega)]; exact hz3
  · have hlt := (List.getElem?_eq_some_iff.mp hp).1
    obtain ⟨v1, v2, v3, v4, v5⟩ := h.2 (k + 1) p (ht1 k p hp)
    have g : ∀ f, inArr f → sI τ' f (100 * a + k) = sI τ f (100 * a + (k + 1)) := fun f g => by rw [k2 f _ g (by omega) (by omega), hz _ _ (by omega) (by omega)]; rfl
    rw [g 1024 (by omega), g 1025 (by omega), g 1026 (by omega), g 1027 (by omega), g 1028 (by omega)]
    exact ⟨v1, v2, v3, v4, v5⟩
  · refine hq.congr ?_ (fun f k g g2 => ?_) (fun _ _ _ _ => rfl)
    · rw [k5 1023 j (by omega) (by omega)]; exact hz 1023 j (by omega) (by omega)
    · rw [k3 f _ g (by omega)]; exact hz _ _ (by omega) (by omega)
  · rw [k5 1038 0 (by omega) (by omega)]; exact hzz.1
  · rw [k5 1039 0 (by omega) (by omega)]; exact hzz.2.1
  · rw [k5 1040 0 (by omega) (by omega)]; exact hzz.2.2.1
  · rw [k5 1041 0 (by omega) (by omega)]; exact hzz.2.2.2.1
  · rw [k5 1042 0 (by omega) (by omega)]; exact hzz.2.2.2.2
  · rw [k4]
    simp only [hne]
    rw [hz 1001 0 (by omega) (by omega), hz 1014 a (by omega) (by omega)]
  · rw [k5 f k g1 g2]; exact hz f k g3 g4
