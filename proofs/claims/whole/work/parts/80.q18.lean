/-- the model's word of the last call's throw is in no part of the likeness -/
theorem thr_sim {n now : Nat} {qs : Nat → List Nat} {rd : List Nat} {X : Option Nat} {σ τ : ST} (v : Int32) (h : Sim n now qs rd X σ τ) : Sim n now qs rd X σ (upI τ 1000 0 v) := by
  obtain ⟨hQ, hW, hS, hC, hK, hF, hB, hR, hM, hRQ, hL, hRF, hCV, hDV, hMV, hn⟩ := h
  have hT : ∀ f k, f ≠ 1000 → sI (upI τ 1000 0 v) f k = sI τ f k := fun f k g => by rw [sI_upI, if_neg (fun w => g w.1)]
  refine ⟨hQ.congr hW.len (fun _ _ _ => rfl) (fun _ _ => rfl) (fun _ _ _ _ => rfl) (fun _ _ _ => rfl) (fun k => hT 1023 k (by omega)) (fun f k hf => hT f k (by omega)), hW, hS.congr (fun _ _ => rfl) (fun _ _ => rfl) (fun f hf => hT f 0 (by omega)) (fun _ _ => rfl), fun j hj => (hC j hj).congr (fun _ _ => rfl) (fun k _ => hT _ _ (by omega)), hK.congr (fun _ _ _ => rfl) (fun f j hf => hT f j (by omega)), ?_, ?_, hR, hM.congr (hT 1030 0 (by omega)) (fun k => hT 1031 k (by omega)), hRQ, hL.congr rfl (hT 1036 0 (by omega)) (fun k => hT 1037 k (by omega)) (fun _ => rfl) (fun _ => rfl) (fun _ _ _ _ _ => rfl) (fun _ w => w) (Nat.le_refl _), hRF, hCV.congr rfl rfl (fun _ => rfl) (hT 1034 0 (by omega)) (fun _ => rfl), fun j hj => (hDV j hj).congr (fun _ _ => rfl) (fun _ _ => rfl) (fun f hf => hT f j (by omega)) (fun _ _ => rfl), fun j hj => (hMV j hj).congr (fun _ _ => rfl) (fun _ _ => rfl) (fun f hf => hT f j (by omega)) (fun _ _ => rfl), hn⟩
  · intro j hj
    unfold SF1
    rw [hT 1032 j (by omega)]
    exact hF j hj
  · unfold SB
    rw [hT 1033 0 (by omega)]
    exact hB
theorem case13_ok {xs : Nat → Int32} {L n now : Nat} {i : Int32} {o : Nat → Int64} {d : Nat → UInt64} {qs : Nat → List Nat} {rd : List Nat} {σ τ : ST} (h : Sim n now qs rd none σ τ) (Kn : Nat → (Nat → Int64) → (Nat → UInt64) → ST → ST → Prop) (hK : ∀ σ' τ', Sim n now qs rd none σ' τ' → Kn n o d σ' τ') : wp_case13 xs L i n o d σ τ Kn := by
  unfold wp_case13 wp_X8_clock wp_X9_clock
  intro s1 e1
  subst e1
  have h1 := h.2.2.1
  rw [h1.1, sI_upI, if_neg (by omega), h1.2.1]
  exact ⟨fun _ => hK _ _ (thr_sim 0 h), fun w => absurd rfl w⟩
theorem case10_ok {xs : Nat → Int32} {L n now : Nat} {i : Int32} {o : Nat → Int64} {d : Nat → UInt64} {qs : Nat → List Nat} {rd : List Nat} {σ τ : ST} (h : Sim n now qs rd none σ τ) (Kn : Nat → (Nat → Int64) → (Nat → UInt64) → ST → ST → Prop) (hK : ∀ σ' τ', Sim n now qs rd none σ' τ' → Kn n o d σ' τ') : wp_case10 xs L i n o d σ τ Kn := by
  unfold wp_case10 wp_X8_free wp_X9_free
  intro s1 e1
  subst e1
  obtain ⟨s1, s2, s3, s4, s5, s6, s7, s8, s9, s10, s11⟩ := h.2.2.1
  have e : sD (upI τ 1000 0 0) 1005 0 = sD σ 138 0 := by rw [sD_upI, s9]
  rw [e]
  have hz : (Op.cmpValue (FP.dcmp (sD σ 138 0) (sD σ 138 0)) .l) = 0 := by
    rw [cmpV s11.1 s11.1, if_neg (by omega), if_pos rfl]
  exact ⟨fun _ => hK _ _ (thr_sim 0 h), fun w => absurd hz w⟩
