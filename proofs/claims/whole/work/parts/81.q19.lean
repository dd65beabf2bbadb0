theorem lg_self (a : Int64) : lg_cmp a a = 0 := by
  unfold lg_cmp
  simp
/-- an answer of a call that is alike on both sides -/
theorem ans_ok {o : Nat → Int64} {r : Int32} {P : Prop} (h : P) : (((lg_cmp ((vp_updL o (0 : Int32).toNatClampNeg r.toInt64) (0 : Int32).toNatClampNeg) r.toInt64) = 0 → P) ∧ (¬ ((lg_cmp ((vp_updL o (0 : Int32).toNatClampNeg r.toInt64) (0 : Int32).toNatClampNeg) r.toInt64) = 0) → False)) := by
  have e : (vp_updL o (0 : Int32).toNatClampNeg r.toInt64) (0 : Int32).toNatClampNeg = r.toInt64 := if_pos rfl
  rw [e]
  exact ⟨fun _ => h, fun w => w (lg_self _)⟩
theorem case6_ok {xs : Nat → Int32} {L n now : Nat} {i : Int32} {o : Nat → Int64} {d : Nat → UInt64} {qs : Nat → List Nat} {rd : List Nat} {σ τ : ST} (h : Sim n now qs rd none σ τ) (hin : vp_in (i + 1) L) (hnow : now + 1000 ≤ 512000) (Kn : Nat → (Nat → Int64) → (Nat → UInt64) → ST → ST → Prop) (hK : ∀ o' now' qs' rd' σ' τ', now' ≤ now + 1000 → Sim n now' qs' rd' none σ' τ' → Kn n o' d σ' τ') : wp_case6 xs L i n o d σ τ Kn := by
  unfold wp_case6
  refine ⟨hin, ?_⟩
  obtain ⟨a, ea⟩ : ∃ a, a = xs (i + 1).toNatClampNeg := ⟨_, rfl⟩
  rw [← ea]
  unfold wp_L_tick wp_X8_tick
  -- the refusal
  have href : ∀ (σ' : ST), σ' = σ → ¬ (1 ≤ a ∧ a ≤ 1000) → (vp_in (i + 1) L ∧ wp_X9_tick τ a (fun r4 τ => wp_X9_thrown τ (fun r5 τ => ((r5 = (1 : Int32) → (((¬ (1 : Int32) = 0 → (Kn n o d σ' τ)) ∧ ((1 : Int32) = 0 → ((((lg_cmp (o (0 : Int32).toNatClampNeg) r4.toInt64) = 0 → (Kn n o d σ' τ)) ∧ (¬ ((lg_cmp (o (0 : Int32).toNatClampNeg) r4.toInt64) = 0) → (False)))))))) ∧ (¬ (r5 = (1 : Int32)) → (False)))))) := by
    intro σ' e hbad
    subst e
    have hJ : wp_X9_tick_J17 a (fun r4 τ => wp_X9_thrown τ (fun r5 τ => ((r5 = (1 : Int32) → (((¬ (1 : Int32) = 0 → (Kn n o d σ' τ)) ∧ ((1 : Int32) = 0 → ((((lg_cmp (o (0 : Int32).toNatClampNeg) r4.toInt64) = 0 → (Kn n o d σ' τ)) ∧ (¬ ((lg_cmp (o (0 : Int32).toNatClampNeg) r4.toInt64) = 0) → (False)))))))) ∧ (¬ (r5 = (1 : Int32)) → (False))))) τ 1 := by
      unfold wp_X9_tick_J17 wp_X9_refused wp_X9_thrown
      intro s1 e1
      subst e1
      refine ⟨fun w => absurd w (by decide), fun _ => ⟨fun w => absurd w (by decide), fun _ => ⟨fun _ => ⟨fun _ => ?_, fun w => absurd w (by decide)⟩, fun w => absurd (sI_s _ _ _ _) w⟩⟩⟩
      exact hK o now qs rd _ _ (by omega) (thr_sim 1 h)
    refine ⟨hin, ?_⟩
    unfold wp_X9_tick wp_X9_isIn
    by_cases h1 : a < 1
    · exact ⟨fun _ => ⟨fun _ => hJ, fun w => absurd rfl w⟩, fun w => absurd h1 w⟩
    · have h2 : 1000 < a := by
        refine Int32.not_le.mp fun w => hbad ⟨Int32.not_lt.mp h1, w⟩
      exact ⟨fun w => absurd w h1, fun _ => ⟨fun _ => ⟨fun _ => hJ, fun w => absurd rfl w⟩, fun w => absurd h2 w⟩⟩
  refine ⟨fun h1 => ⟨rfl, href σ rfl (fun w => by
    have := Int32.not_lt.mpr w.1
    exact this h1)⟩, fun h1 => ⟨fun h2 => ?_, fun h2 => ⟨rfl, href σ rfl (fun w => h2 w.2)⟩⟩⟩
  obtain ⟨A, hA, eA⟩ := nI_of2 (M := 1000) (n := 1000) (by decide) (fun w => h1 (by
    rw [Int32.lt_iff_toInt_lt] at w ⊢
    have z0 : (0 : Int32).toInt = 0 := rfl
    have z1 : (1 : Int32).toInt = 1 := rfl
    omega)) h2
  obtain ⟨v, σ', τ', qs', rd', kc, km, hS, hth⟩ := tick_loop (n := n) hA A 0 now 0 qs rd σ (upI τ 1000 0 0) (by omega) (by omega) (thr_sim 0 h)
  rw [eA]
  refine ⟨A + 1, kc _ _ ?_⟩
  refine ⟨hin, ?_⟩
  unfold wp_X9_tick wp_X9_isIn
  have g1 : ¬ nI A < 1 := by rw [← eA]; exact h1
  have g2 : ¬ (1000 : Int32) < nI A := by rw [← eA]; exact Int32.not_lt.mpr h2
  refine ⟨fun w => absurd w g1, fun _ => ⟨fun w => absurd w g2, fun _ => ⟨fun w => absurd w (by decide), fun _ => ?_⟩⟩⟩
  unfold wp_X9_tick_J17 wp_X9_refused
  intro s1 e1
  subst e1
  refine ⟨fun _ => ⟨fun _ => ⟨A + 1, km _ ?_⟩, fun w => absurd rfl w⟩, fun w => absurd (by decide) w⟩
  unfold wp_X9_thrown
  rw [hth, sI_s]
  exact ⟨fun _ => ⟨fun w => absurd rfl w, fun _ => ans_ok (hK _ _ _ _ _ _ (by omega) hS)⟩, fun w => absurd rfl w⟩
