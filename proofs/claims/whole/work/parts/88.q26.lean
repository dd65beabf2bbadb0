/-! the start and the whole run -/
def INV (x : Nat) (z : ST) : Prop := (∀ k, k < x → sI z 1007 k = 1500 ∧ sI z 1013 k = -1 ∧ sD z 1008 k = 4617315517961601024 ∧ sD z 1009 k = 4624633867356078080 ∧ sD z 1010 k = 4591870180066957722 ∧ sD z 1011 k = 4598175219545276416 ∧ sD z 1015 k = 4617315517961601024 ∧ sD z 1016 k = 4636737291354636288) ∧ (∀ f k, f ≠ 1007 → f ≠ 1013 → sI z f k = sI τ1 f k) ∧ (∀ f k, ¬ (1008 ≤ f ∧ f ≤ 1011) → f ≠ 1015 → f ≠ 1016 → sD z f k = sD τ1 f k)
theorem init_loop (K : ST → Prop) (hK : ∀ z, INV 6 z → K z) : ∀ (d x : Nat) (z : ST), x + d = 6 → INV x z → wp_X9_init_L249 K (d + 1) z (nI x) := by
  intro d
  induction d with
  | zero =>
    intro x z hx h
    have e : x = 6 := by omega
    subst e
    exact ⟨fun _ => hK z h, fun w => absurd (by decide) w⟩
  | succ d ih =>
    intro x z hx h
    obtain ⟨h1, h2, h3⟩ := h
    have hin : vp_in (nI x) 6 := vp_in_nI (by omega) (by decide)
    unfold wp_X9_init_L249
    rw [nI_clamp (by omega), nI_1]
    refine ⟨fun w => absurd w (nI_ge (b := 6) (by omega) (by decide)), fun _ => ⟨hin, fun s2 e2 => ⟨hin, fun s4 e4 => ⟨hin, fun s6 e6 => ⟨hin, fun s8 e8 => ⟨hin, fun s10 e10 => ⟨hin, fun s12 e12 => ⟨hin, fun s14 e14 => ⟨hin, fun s16 e16 => ih (x + 1) s16 (by omega) ⟨fun k hk => ?_, fun f k g1 g2 => ?_, fun f k g1 g2 g3 => ?_⟩⟩⟩⟩⟩⟩⟩⟩⟩⟩
    · subst e2; subst e4; subst e6; subst e8; subst e10; subst e12; subst e14; subst e16
      by_cases e : k = x
      · subst e
        simp [sI_upI, sI_upD, sD_upI, sD_upD]
      · have := h1 k (by omega)
        simp only [sI_upI, sI_upD, sD_upI, sD_upD, e, and_false, if_false]
        exact this
    · subst e2; subst e4; subst e6; subst e8; subst e10; subst e12; subst e14; subst e16
      simp only [sI_upI, sI_upD]
      rw [if_neg (by omega), if_neg (by omega)]
      exact h2 f k g1 g2
    · subst e2; subst e4; subst e6; subst e8; subst e10; subst e12; subst e14; subst e16
      simp only [sD_upI, sD_upD]
      rw [if_neg (by omega), if_neg (by omega), if_neg (by omega), if_neg (by omega), if_neg (by omega), if_neg (by omega)]
      exact h3 f k g1 g2 g3
theorem bd_z : bd 0 0 0 := bd_0
theorem tot0 : (tot fun _ => 0) = 0 := rfl
theorem sim0 {τ : ST} (h : INV 6 τ) : Sim 0 0 (fun _ => []) [] none σ0 τ := by
  obtain ⟨h1, h2, h3⟩ := h
  have bb : byt σ0 [] = 0 := rfl
  refine ⟨fun j hj => ⟨rfl, rfl, trivial, List.nodup_nil, fun p hp => absurd hp (by simp), rfl, ?_, ?_, fun k p hk => absurd hk (by simp)⟩, ⟨?_, ?_, ?_⟩, ⟨rfl, ?_, by omega, ⟨0, rfl⟩, ?_, ?_, ⟨1000000, by omega, by omega, rfl⟩, ?_, ?_, ?_, ?_⟩, fun j hj => ⟨?_, ?_, ?_, ?_, ?_, ?_, ?_⟩, fun j hj => ⟨rfl, ?_, ?_, 1500, by omega, by omega, rfl⟩, fun j hj => ⟨fun w => absurd w (by simp), fun _ => rfl, 0, rfl, by omega, Or.inl (by omega)⟩, ⟨?_, isB0⟩, ⟨rfl, rfl, trivial, List.nodup_nil, fun i hi => absurd hi (by simp), fun _ _ => rfl⟩, ⟨?_, fun k i hk => absurd hk (by simp)⟩, fun j hj => ⟨fun w => absurd w (by simp), fun w => absurd rfl w⟩, ⟨0, rfl, ?_, ?_, fun _ _ _ _ => rfl, fun k hk => absurd hk (by omega)⟩, ⟨fun k p hk => (by cases hk), fun k p hk => (by cases hk)⟩, ⟨0, 0, rfl, rfl, ?_, by omega, by omega, fun k hk => absurd hk (by omega)⟩, fun j hj => ?_, fun j hj => ?_, by omega⟩
  · rw [bb]; rfl
  · rw [h2 1023 j (by omega) (by omega)]; rfl
  · rfl
  · show (tot fun _ => 0) ≤ 100
    rw [tot0]; omega
  · show sI σ0 135 0 = nI (tot fun _ => byt σ0 [])
    rw [bb, tot0]; rfl
  · rw [h2 1001 0 (by omega) (by omega)]; rfl
  · rw [h2 1002 0 (by omega) (by omega)]; rfl
  · rw [h2 1004 0 (by omega) (by omega)]; rfl
  · rw [h3 1003 0 (by omega) (by omega) (by omega)]; rfl
  · rw [h3 1005 0 (by omega) (by omega) (by omega)]; rfl
  · exact bd_100.weaken (by decide) (by decide)
  · exact bd_z.weaken (by decide) (by decide)
  · rw [h2 1029 _ (by omega) (by omega)]; rfl
  · rw [h2 1029 _ (by omega) (by omega)]; rfl
  · rw [h2 1029 _ (by omega) (by omega)]; rfl
  · rw [h2 1029 _ (by omega) (by omega)]; rfl
  · rw [h2 1029 _ (by omega) (by omega)]; rfl
  · rw [h2 1029 _ (by omega) (by omega)]; rfl
  · rw [h2 1029 _ (by omega) (by omega)]; rfl
  · rw [h2 1006 j (by omega) (by omega)]; rfl
  · rw [(h1 j hj).1]; rfl
  · rw [h2 1033 0 (by omega) (by omega)]; rfl
  · rw [h2 1030 0 (by omega) (by omega)]; rfl
  · show 0 + (tot fun _ => 0) + 0 ≤ 0
    rw [tot0]; omega
  · rw [h2 1036 0 (by omega) (by omega)]; rfl
  · rw [h2 1034 0 (by omega) (by omega)]; rfl
  · obtain ⟨_, _, _, _, _, _, g5, g6⟩ := h1 j hj
    unfold DV
    rw [g5, g6, h3 1017 j (by omega) (by omega) (by omega), h3 1020 j (by omega) (by omega) (by omega), h2 1018 j (by omega) (by omega), h2 1019 j (by omega) (by omega), h2 1021 j (by omega) (by omega), h2 1022 j (by omega) (by omega)]
    exact ⟨⟨rfl, rfl, rfl, rfl, rfl, rfl, rfl⟩, Or.inl rfl, bd_5.weaken (by decide) (by decide), bd_100.weaken (by decide) (by decide), bd_z.weaken (by decide) (by decide), 0, 0, rfl, rfl, Nat.zero_le _, Nat.zero_le _⟩
  · obtain ⟨_, g1, g2, g3, g4, g5, _, _⟩ := h1 j hj
    unfold MV
    rw [g1, g2, g3, g4, g5, h3 1012 j (by omega) (by omega) (by omega), h2 1014 j (by omega) (by omega)]
    refine ⟨⟨rfl, rfl, rfl, rfl, rfl, rfl, rfl⟩, bd_5.weaken (by decide) (by decide), bd_15.weaken (by decide) (by decide), ?_, bd_tenth, bd_quart, bd_z.weaken (by decide) (by decide), 0, rfl, Nat.le_refl _⟩
    show ZF 4617315517961601024 + (U8 : Int) ≤ ZF 4624633867356078080
    rw [bd_eq bd_5, bd_eq bd_15]
    omega
/-- the law's loop: the two sides stand alike at each call -/
theorem run_ok {xs : Nat → Int32} {L : Nat} (hL : L ≤ 3072) : ∀ (d it n now : Nat) (o : Nat → Int64) (dd : Nat → UInt64) (qs : Nat → List Nat) (rd : List Nat) (σ τ : ST), it + d = 512 → n ≤ it → now ≤ 1000 * it → Sim n now qs rd none σ τ → wpL xs L (d + 1) it n o dd σ τ := by
  intro d
  induction d with
  | zero =>
    intro it n now o dd qs rd σ τ hit hn hnow hS
    intro hlt
    have := law_bound hL (by omega) hlt
    omega
  | succ d ih =>
    intro it n now o dd qs rd σ τ hit hn hnow hS
    intro hlt
    have hbd := law_bound hL (by omega) hlt
    have hin : ∀ k : Nat, k < 6 → vp_in (nI (6 * it) + nI k) L := fun k hk => by
      rw [nI_add]
      exact vp_in_nI (by omega) (by omega)
    have h0 : vp_in (nI (6 * it)) L := vp_in_nI (by omega) (by omega)
    have same : ∀ o' d' σ' τ', Sim n now qs rd none σ' τ' → wpL xs L (d + 1) (it + 1) n o' d' σ' τ' := fun o' d' σ' τ' h => ih (it + 1) n now o' d' qs rd σ' τ' (by omega) (by omega) (by omega) h
    refine ⟨h0, fun _ => same _ _ _ _ hS, fun _ => ?_, fun _ => ?_, fun _ => ?_, fun _ => ?_, fun _ => ?_, fun _ => ?_, fun _ => ?_, fun _ => ?_, fun _ => ?_, fun _ => ?_, fun _ => ?_, fun _ => ?_, fun _ => ?_, fun _ => ?_⟩
    · exact case0_ok hS (hin 1 (by omega)) (hin 2 (by omega)) (hin 3 (by omega)) _ same
    · exact case1_ok hS (hin 1 (by omega)) (hin 2 (by omega)) (hin 3 (by omega)) (hin 4 (by omega)) (hin 5 (by omega)) _ same
    · exact case2_ok hS (hin 1 (by omega)) (hin 2 (by omega)) (hin 3 (by omega)) _ same
    · exact case3_ok hS (hin 1 (by omega)) (hin 2 (by omega)) _ same
    · exact case4_ok hS (hin 1 (by omega)) _ same
    · exact case5_ok hS (hin 1 (by omega)) (hin 2 (by omega)) (hin 3 (by omega)) (by omega) _ (fun n' o' d' qs' rd' σ' τ' hn' h => ih (it + 1) n' now o' d' qs' rd' σ' τ' (by omega) (by omega) (by omega) h)
    · exact case6_ok hS (hin 1 (by omega)) (by omega) _ (fun o' now' qs' rd' σ' τ' hn' h => ih (it + 1) n now' o' dd qs' rd' σ' τ' (by omega) (by omega) (by omega) h)
    · exact case7_ok hS (hin 1 (by omega)) (hin 2 (by omega)) _ (fun o' d' τ' h => same o' d' σ τ' h)
    · exact case8_ok hS (hin 1 (by omega)) _ (fun o' d' τ' h => same o' d' σ τ' h)
    · exact case9_ok hS (hin 1 (by omega)) _ (fun o' d' τ' h => same o' d' σ τ' h)
    · exact case10_ok hS _ (fun σ' τ' h => same _ _ σ' τ' h)
    · exact case11_ok hS (hin 1 (by omega)) (hin 2 (by omega)) _ (fun o' d' τ' h => same o' d' σ τ' h)
    · exact case12_ok hS (hin 1 (by omega)) _ (fun o' d' τ' h => same o' d' σ τ' h)
    · exact case13_ok hS _ (fun σ' τ' h => same _ _ σ' τ' h)
theorem pure_all {xs : Nat → Int32} {L : Nat} (hL : L ≤ 3072) : wp_X9_init τ1 (fun τ => ∃ f, wpL xs L f 0 0 (fun _ => 0) (fun _ => 0) σ0 τ) := by
  unfold wp_X9_init
  refine ⟨7, init_loop _ (fun z hz => ⟨513, run_ok hL 512 0 0 0 _ _ _ _ _ _ (by omega) (by omega) (by omega) (sim0 hz)⟩) 6 0 τ1 rfl ⟨fun k hk => absurd hk (by omega), fun _ _ _ _ => rfl, fun _ _ _ _ _ => rfl⟩⟩
