theorem choose_loop {n now : Nat} : ∀ (m x : Nat) (qs : Nat → List Nat) (rd : List Nat) (σ τ : ST), mu σ qs < m → x + m ≤ 1000000 → Sim n now qs rd none σ τ →
    ∃ (r : Option Nat) (bm : Int32) (σ' τ' : ST) (qs' : Nat → List Nat) (rd' : List Nat), (∃ f, ∀ K : Option Nat → ST → Prop, K r σ' → wp_X8_choose_L4 n K f σ (nI x) none) ∧ (∃ f, ∀ K : Int32 → ST → Prop, K bm τ' → wp_X9_choose_L0 K f τ) ∧ (r = none → bm = -1) ∧ (∀ p, r = some p → ∃ b, bm = nI b ∧ FL n now σ' τ' b p ∧ ¬ live qs' p) ∧ Sim n now qs' rd' r σ' τ' ∧ tot (fun j => (qs' j).length) + xc r ≤ tot (fun j => (qs j).length) ∧ sD σ' 138 0 = sD σ 138 0 ∧ sI τ' 1000 0 = sI τ 1000 0 := by
  intro m
  induction m with
  | zero => intro x qs rd σ τ h; omega
  | succ m ih =>
    intro x qs rd σ τ hm hx hSim
    have hR := hSim.2.2.2.2.2.2.2.1
    have hM := hSim.2.2.2.2.2.2.2.2.1
    have hlt : ¬ (1000000 : Int32) ≤ nI x := nI_ge (b := 1000000) (by omega) (by decide)
    cases hrd : rd with
    | nil =>
      subst hrd
      have h112 : sR σ 112 0 = none := hR.1
      refine ⟨none, -1, σ, τ, qs, [], ⟨1, fun K hK => ⟨fun w => absurd w hlt, fun _ => ⟨fun _ => ⟨fun _ => hK, fun b hb => ?_⟩, fun b hb => (by cases hb)⟩⟩⟩, ⟨1, fun K hK => ⟨fun _ => hK, fun w => ?_⟩⟩, fun _ => rfl, fun p hp => (by cases hp), hSim, Nat.le_refl _, rfl, rfl⟩
      · rw [h112] at hb; cases hb
      · exfalso
        apply w
        rw [hM.1]
        exact nI_le (a := 0) (b := 0) (Nat.le_refl 0) (by decide)
    | cons b t =>
      subst hrd
      have h112 : sR σ 112 0 = some b := hR.1
      obtain ⟨r, σ1, τ1, qs1, rd1, lc, lm, hS1, hmu, hFL, htot, hfr, hth⟩ := look_ok hSim
      cases hr : r with
      | none =>
        subst hr
        obtain ⟨r2, bm, σ', τ', qs', rd', ⟨fc, kc⟩, ⟨fm, km⟩, q1, q2, q3, q4, q5, q6⟩ := ih (x + 1) qs1 rd1 σ1 τ1 (by have := hmu rfl; omega) (by omega) hS1
        refine ⟨r2, bm, σ', τ', qs', rd', ⟨fc + 1, fun K hK => ⟨fun w => absurd w hlt, fun _ => ⟨fun _ => ⟨fun w => ?_, fun b3 _ => ⟨b, h112, lc _ ?_⟩⟩, fun b1 hb1 => (by cases hb1)⟩⟩⟩, ⟨fm + 1, fun K hK => lm K fm (fun _ => km K hK) (fun w => ?_)⟩, q1, q2, q3, ?_, q5.trans hfr, q6.trans hth⟩
        · rw [h112] at w; cases w
        · rw [nI_1]; exact kc K hK
        · obtain ⟨p, hp⟩ := w; cases hp
        · have : xc none = 0 := rfl
          omega
      | some p =>
        subst hr
        refine ⟨some p, nI b, σ1, τ1, qs1, rd1, ⟨2, fun K hK => ⟨fun w => absurd w hlt, fun _ => ⟨fun _ => ⟨fun w => ?_, fun b3 _ => ⟨b, h112, lc _ ?_⟩⟩, fun b1 hb1 => (by cases hb1)⟩⟩⟩, ⟨1, fun K hK => lm K 0 (fun w => (by cases w)) (fun _ => hK)⟩, fun w => (by cases w), fun p' hp' => ?_, hS1, htot, hfr, hth⟩
        · rw [h112] at w; cases w
        · exact ⟨fun _ => hK, fun _ => ⟨fun w => (by cases w), fun b1 hb1 => (by cases hb1; exact hK)⟩⟩
        · cases hp'
          exact ⟨b, rfl, hFL p rfl⟩
theorem mu_le {n now : Nat} {qs : Nat → List Nat} {rd : List Nat} {X : Option Nat} {σ τ : ST} (h : Sim n now qs rd X σ τ) : mu σ qs < 200000 := by
  have h1 := h.2.1.2.1
  have h2 := isB_nat h.2.2.2.2.2.2.1.2
  have h3 : (tot fun j => 1500 - dv σ j) ≤ 9000 := by unfold tot; dsimp only; omega
  unfold mu
  omega
/-- choose, both sides -/
theorem choose_ok {n now : Nat} {qs : Nat → List Nat} {rd : List Nat} {σ τ : ST} (h : Sim n now qs rd none σ τ) :
    ∃ (r : Option Nat) (bm : Int32) (σ' τ' : ST) (qs' : Nat → List Nat) (rd' : List Nat), (∀ K : Option Nat → ST → Prop, K r σ' → wp_X8_choose n σ K) ∧ (∀ K : Int32 → ST → Prop, K bm τ' → wp_X9_choose τ K) ∧ (r = none → bm = -1) ∧ (∀ p, r = some p → ∃ b, bm = nI b ∧ FL n now σ' τ' b p ∧ ¬ live qs' p) ∧ Sim n now qs' rd' r σ' τ' ∧ tot (fun j => (qs' j).length) + xc r ≤ tot (fun j => (qs j).length) ∧ sD σ' 138 0 = sD σ 138 0 ∧ sI τ' 1000 0 = sI τ 1000 0 := by
  obtain ⟨r, bm, σ', τ', qs', rd', ⟨f, k⟩, ⟨g, l⟩, q⟩ := choose_loop 200000 0 qs rd σ τ (mu_le h) (by omega) h
  exact ⟨r, bm, σ', τ', qs', rd', fun K hK => ⟨f, k K hK⟩, fun K hK => ⟨g, l K hK⟩, q⟩
/-- the model's log moved on by a packet -/
theorem send_loop {b : Nat} {z0 : ST} : ∀ (d : Nat) (z : ST), d + 4 ≤ 159 → (∀ f k, f ≠ 1037 → sI z f k = sI z0 f k) → (∀ y, d + 4 < y → y ≤ 159 → sI z 1037 y = sI z0 1037 (y - 5)) → (∀ y, y ≤ d + 4 → sI z 1037 y = sI z0 1037 y) → (∀ f k, sD z f k = sD z0 f k) →
    ∃ z', (∀ K : ST → Prop, K z' → wp_X9_send_L67 (nI b) K (d + 1) z (nI (d + 4))) ∧ (∀ y, 5 ≤ y → y ≤ 159 → sI z' 1037 y = sI z0 1037 (y - 5)) ∧ sI z' 1037 0 = sI z0 1038 0 ∧ sI z' 1037 1 = nI b ∧ sI z' 1037 2 = sI z0 1039 0 ∧ sI z' 1037 3 = sI z0 1001 0 - sI z0 1040 0 ∧ sI z' 1037 4 = (if sI z0 1042 0 = 0 then 0 else 1) ∧ sI z' 1036 0 = (if 32 ≤ sI z0 1036 0 then 32 else sI z0 1036 0 + 1) ∧ (∀ f k, f ≠ 1037 → f ≠ 1036 → sI z' f k = sI z0 f k) ∧ (∀ f k, sD z' f k = sD z0 f k) := by
  intro d
  induction d with
  | zero =>
    intro z hd h1 h2 h3 h4
    obtain ⟨v4, e4⟩ : ∃ v : Int32, v = (if sI z0 1042 0 = 0 then 0 else 1) := ⟨_, rfl⟩
    obtain ⟨v6, e6⟩ : ∃ v : Int32, v = (if 32 ≤ sI z0 1036 0 then 32 else sI z0 1036 0 + 1) := ⟨_, rfl⟩
    obtain ⟨w, ew⟩ : ∃ w, w = upI (upI (upI (upI z 1037 0 (sI z0 1038 0)) 1037 1 (nI b)) 1037 2 (sI z0 1039 0)) 1037 3 (sI z0 1001 0 - sI z0 1040 0) := ⟨_, rfl⟩
    have hw : ∀ f k, f ≠ 1037 → sI w f k = sI z0 f k := fun f k g => by
      rw [ew]; simp only [sI_upI]
      rw [if_neg (fun q => g q.1), if_neg (fun q => g q.1), if_neg (fun q => g q.1), if_neg (fun q => g q.1)]
      exact h1 f k g
    obtain ⟨z', ez⟩ : ∃ z', z' = upI (upI w 1037 4 v4) 1036 0 v6 := ⟨_, rfl⟩
    have i0 : vp_in 0 160 := vp_in_nI (n := 0) (by decide) (by decide)
    have i1 : vp_in 1 160 := vp_in_nI (n := 1) (by decide) (by decide)
    have i2 : vp_in 2 160 := vp_in_nI (n := 2) (by decide) (by decide)
    have i3 : vp_in 3 160 := vp_in_nI (n := 3) (by decide) (by decide)
    have i4 : vp_in 4 160 := vp_in_nI (n := 4) (by decide) (by decide)
    refine ⟨z', fun K hK => ⟨fun _ => ⟨i0, fun s9 e9 => ⟨i1, fun s11 e11 => ⟨i2, fun s13 e13 => ⟨i3, fun s15 e15 => ?_⟩⟩⟩⟩, fun q => absurd (by decide) q⟩, fun y g1 g2 => ?_, ?_, ?_, ?_, ?_, ?_, ?_, fun f k g1 g2 => ?_, fun f k => ?_⟩
    · have c0 : (0 : Int32).toNatClampNeg = 0 := rfl
      have c1 : (1 : Int32).toNatClampNeg = 1 := rfl
      have c2 : (2 : Int32).toNatClampNeg = 2 := rfl
      have c3 : (3 : Int32).toNatClampNeg = 3 := rfl
      have c4 : (4 : Int32).toNatClampNeg = 4 := rfl
      rw [c0, h1 1038 0 (by omega)] at e9
      rw [c1] at e11
      have q39 : sI s11 1039 0 = sI z0 1039 0 := by rw [e11, e9, sI_upI, if_neg (by omega), sI_upI, if_neg (by omega)]; exact h1 _ _ (by omega)
      rw [c2, q39] at e13
      have q01 : sI s13 1001 0 = sI z0 1001 0 := by rw [e13, e11, e9, sI_upI, if_neg (by omega), sI_upI, if_neg (by omega), sI_upI, if_neg (by omega)]; exact h1 _ _ (by omega)
      have q40 : sI s13 1040 0 = sI z0 1040 0 := by rw [e13, e11, e9, sI_upI, if_neg (by omega), sI_upI, if_neg (by omega), sI_upI, if_neg (by omega)]; exact h1 _ _ (by omega)
      rw [c3, q01, q40] at e15
      have es : s15 = w := by rw [e15, e13, e11, e9, ew]
      rw [es, c4, hw 1042 0 (by omega)]
      have h36 : ∀ v, sI (upI w 1037 4 v) 1036 0 = sI z0 1036 0 := fun v => by rw [sI_upI, if_neg (by omega)]; exact hw 1036 0 (by omega)
      refine ⟨fun q => ⟨i4, fun s17 e17 => ?_⟩, fun q => ⟨i4, fun s21 e21 => ?_⟩⟩
      · rw [if_pos q] at e4
        subst e17
        rw [h36]
        refine ⟨fun g s18 e18 => ?_, fun g s19 e19 => ?_⟩
        · rw [if_pos g] at e6; rw [e18, ← e6, ← e4, ← ez]; exact hK
        · rw [if_neg g] at e6; rw [e19, ← e6, ← e4, ← ez]; exact hK
      · rw [if_neg q] at e4
        subst e21
        rw [h36]
        refine ⟨fun g s18 e18 => ?_, fun g s19 e19 => ?_⟩
        · rw [if_pos g] at e6; rw [e18, ← e6, ← e4, ← ez]; exact hK
        · rw [if_neg g] at e6; rw [e19, ← e6, ← e4, ← ez]; exact hK
    · rw [ez, ew]; simp only [sI_upI]
      rw [if_neg (by omega), if_neg (by omega), if_neg (by omega), if_neg (by omega), if_neg (by omega), if_neg (by omega)]
      exact h2 y (by omega) g2
    · rw [ez, ew]; simp [sI_upI]
    · rw [ez, ew]; simp [sI_upI]
    · rw [ez, ew]; simp [sI_upI]
    · rw [ez, ew]; simp [sI_upI]
    · rw [ez, ew]; simp [sI_upI, e4]
    · rw [ez, ew]; simp [sI_upI, e6]
    · rw [ez, sI_upI, if_neg (fun q => g2 q.1), sI_upI, if_neg (fun q => g1 q.1)]
      exact hw f k g1
    · rw [ez, ew]; exact h4 f k
  | succ d ih =>
    intro z hd h1 h2 h3 h4
    obtain ⟨z', k', r⟩ := ih (upI z 1037 (d + 1 + 4) (sI z 1037 d)) (by omega) (fun f k g => by rw [sI_upI, if_neg (fun q => g q.1)]; exact h1 f k g)
      (fun y g1 g2 => by
        rw [sI_upI]
        by_cases e : y = d + 1 + 4
        · subst e
          rw [if_pos ⟨rfl, rfl⟩, show d + 1 + 4 - 5 = d by omega]
          exact h3 d (by omega)
        · rw [if_neg (fun q => e q.2)]; exact h2 y (by omega) g2)
      (fun y g => by rw [sI_upI, if_neg (by omega)]; exact h3 y (by omega)) (fun f k => h4 f k)
    refine ⟨z', fun K hK => ⟨fun q => ?_, fun _ => ⟨?_, ?_, fun s26 e26 => ?_⟩⟩, r⟩
    · exact absurd q (nI_nlt (b := 5) (by omega) (by omega))
    · rw [show (5 : Int32) = nI 5 from rfl, pk_sub (by omega)]; exact vp_in_nI (by omega) (by decide)
    · exact vp_in_nI (by omega) (by decide)
    · rw [show (5 : Int32) = nI 5 from rfl, pk_sub (by omega), nI_clamp (by omega), nI_clamp (by omega), show d + 1 + 4 - 5 = d by omega] at e26
      subst e26
      rw [show d + 1 + 4 = d + 4 + 1 by omega, pk_m1]
      exact k' K hK
