/-- one look of choose, both sides -/
theorem look_ok {n now b : Nat} {σ0 τ0 : ST} {qs : Nat → List Nat} {t : List Nat} (h : Sim n now qs (b :: t) none σ0 τ0) :
    ∃ (r : Option Nat) (σ' τ' : ST) (qs' : Nat → List Nat) (rd' : List Nat), (∀ K : Option Nat → ST → Prop, K r σ' → wp_X8_lookAt n σ0 b K) ∧ (∀ (K : Int32 → ST → Prop) (fu : Nat), (r = none → wp_X9_choose_L0 K fu τ') → ((∃ p, r = some p) → K (nI b) τ') → wp_X9_choose_L0 K (fu + 1) τ0) ∧ Sim n now qs' rd' r σ' τ' ∧ (r = none → mu σ' qs' < mu σ0 qs) ∧ (∀ p, r = some p → FL n now σ' τ' b p ∧ ¬ live qs' p) ∧ tot (fun j => (qs' j).length) + xc r ≤ tot (fun j => (qs j).length) ∧ sD σ' 138 0 = sD σ0 138 0 ∧ sI τ' 1000 0 = sI τ0 1000 0 := by
  obtain ⟨σ, τ, kb, km, h, hg, hmu, hb6, h31, hfr0, hth0⟩ := begin_ok h
  have z31 : sI τ0 1031 (0 : Int32).toNatClampNeg = nI b := h31
  obtain ⟨hQ, hW, hS, hC, hK, hF, hB, hR, hM, hRQ, hL, hRF, hCV, hDV, hMV, hn⟩ := id h
  have hin : vp_in (nI b) 6 := vp_in_nI hb6 (by decide)
  have hc : (nI b).toNatClampNeg = b := nI_clamp (by omega)
  have hne : qs b ≠ [] := (hRQ b hb6).mp (by simp)
  obtain ⟨p, u, hq⟩ : ∃ p u, qs b = p :: u := by
    cases hx : qs b with
    | nil => exact absurd hx hne
    | cons p u => exact ⟨p, u, rfl⟩
  have hQb := hQ b hb6
  rw [hq] at hQb
  obtain ⟨a1, a2, a3, a4, a5, a6, a7, a8⟩ := hQb
  have a1 : sR σ 96 b = some p := a1
  have hp := a5 p (by simp)
  obtain ⟨bp, b1, b2, b3, b4⟩ := byt_pos hp
  have e25 : sI τ 1025 (100 * b) = nI bp := by
    have := (a8.2 0 p rfl).2.1
    rw [Nat.add_zero] at this
    rw [this]; exact b3
  obtain ⟨d, d1, d2, d3, d4⟩ := (hF b hb6).val
  have e32 : sI τ 1032 b = nI d := by rw [← (hF b hb6).1 (by simp)]; exact d1
  have e100 : (100 : Int32) * nI b = nI (100 * b) := by rw [show (100 : Int32) = nI 100 from rfl, pk_mul]
  have i100 : vp_in (nI (100 * b)) 600 := vp_in_nI (by omega) (by decide)
  have c100 : (nI (100 * b)).toNatClampNeg = 100 * b := nI_clamp (by omega)
  by_cases hcmp : bp ≤ d
  · have hle : nI bp ≤ nI d := nI_le hcmp (by omega)
    obtain ⟨σ1, τ1, ck, mk, hQ1, hW1, hp1, h86, t38, t39, t40, t41, t42, t14, x1, x2, x3, x4, x5, y1, y2, y3⟩ := take_ok (now := now) hb6 hQ hW hS.1 hq
    obtain ⟨W, eW⟩ : ∃ W, W = tot (fun j => (qs j).length) := ⟨_, rfl⟩
    obtain ⟨W', eW'⟩ : ∃ W', W' = tot (fun j => (qset qs b u j).length) := ⟨_, rfl⟩
    have hWW : W' + 1 = W := by
      have hT := tot_up (f := fun j => (qs j).length) (g := fun j => (qset qs b u j).length) hb6 (fun j hj => by rw [qset_n u hj])
      simp only [qset_s, hq, List.length_cons] at hT
      omega
    have hWn : W ≤ n := by
      obtain ⟨c, _, w, _⟩ := hL
      omega
    have hS1 : SS now σ1 τ1 := hS.congr (fun f hf => x4 f 0 (by omega) (by omega) (by omega) (by omega) (by omega)) (fun f _ => x5 f 0) (fun f hf => y1 f 0 (by omega) (by omega) (by omega) (by omega)) (fun f _ => y3 f 0)
    have hD1 : DV (n - W) σ1 τ1 b := by
      rw [eW]
      exact (hDV b hb6).congr (fun f hf => x4 f b (by omega) (by omega) (by omega) (by omega) (by omega)) (fun f _ => x5 f b) (fun f hf => y1 f b (by omega) (by omega) (by omega) (by omega)) (fun f _ => y3 f b)
    have hQ1b := hQ1 b hb6
    rw [qset_s] at hQ1b
    have hlu : u.length ≤ 100 := by
      have := hW1.len b hb6
      rw [qset_s] at this
      exact this
    have hk1 : sI σ1 36 b = sI τ1 1006 b := by
      rw [x4 36 b (by omega) (by omega) (by omega) (by omega) (by omega), y1 1006 b (by omega) (by omega) (by omega) (by omega)]
      exact (hK b hb6).2.1
    have hu83 : sI σ1 83 p = sI σ 83 p := x4 83 p (by omega) (by omega) (by omega) (by omega) (by omega)
    have h8x : ∀ f, 80 ≤ f ∧ f ≤ 85 → sI σ1 f p = sI σ f p := fun f hf => x4 f p (by omega) (by omega) (by omega) (by omega) (by omega)
    obtain ⟨r, σ2, τ2, ok1, ok2, hr, hD2, v1, v2, v3, v4, f1, f2, f3, f4, f5⟩ := out_ok (n := n) hb6 hD1 hS1.2.1 hS.2.2.1 (by omega) hp1 (by rw [hu83]; exact h86) (by rw [hu83]; exact t40) (by rw [h8x 84 (by omega)]; exact t41) (by rw [h8x 85 (by omega)]; exact t42) hQ1b.2.2.2.2.2.1 hQ1b.2.2.2.2.2.2.2.1 hlu hk1
    -- p is in no queue
    have hnl : ¬ live (qset qs b u) p := by
      rintro ⟨j, hj, hm⟩
      by_cases e : j = b
      · subst e
        rw [qset_s] at hm
        exact (List.nodup_cons.mp a4).1 hm
      · rw [qset_n u e] at hm
        exact e (hQ.apart hj hb6 hm (by rw [hq]; simp))
    have hlv : ∀ q, live (qset qs b u) q → live qs q := by
      rintro q ⟨j, hj, hm⟩
      by_cases e : j = b
      · subst e
        rw [qset_s] at hm
        exact ⟨j, hj, by rw [hq]; exact List.mem_cons_of_mem _ hm⟩
      · rw [qset_n u e] at hm
        exact ⟨j, hj, hm⟩
    have hneq : ∀ q, live (qset qs b u) q → q ≠ p := fun q hq1 e => hnl (e ▸ hq1)
    -- the third state: counts and credits
    obtain ⟨σ3, eσ3⟩ : ∃ z, z = (if r = 0 then upI σ2 45 b (sI σ2 45 b + 1) else upI σ2 38 b (sI σ2 38 b - sI σ2 82 p)) := ⟨_, rfl⟩
    have hI3 : ∀ f k, ¬ ((f = 18 ∨ f = 20 ∨ f = 22 ∨ f = 23 ∨ f = 45 ∨ f = 46 ∨ f = 38) ∧ k = b) → ¬ ((f = 85 ∨ f = 86) ∧ k = p) → f ≠ 98 → f ≠ 99 → f ≠ 134 → f ≠ 135 → sI σ3 f k = sI σ f k := by
      intro f k g1 g2 g3 g4 g5 g6
      have w : sI σ3 f k = sI σ2 f k := by
        rw [eσ3]
        split <;> rw [sI_upI, if_neg (by omega)]
      rw [w, f2 f k (by omega) (by omega)]
      exact x4 f k g3 g4 g5 g6 (by omega)
    have hI32 : ∀ f k, ¬ ((f = 18 ∨ f = 20 ∨ f = 22 ∨ f = 23 ∨ f = 45 ∨ f = 46 ∨ f = 38) ∧ k = b) → ¬ (f = 85 ∧ k = p) → sI σ3 f k = sI σ1 f k := by
      intro f k g1 g2
      have w : sI σ3 f k = sI σ2 f k := by
        rw [eσ3]
        split <;> rw [sI_upI, if_neg (by omega)]
      rw [w, f2 f k (by omega) (by omega)]
    have hR3 : ∀ f k, sR σ3 f k = sR σ1 f k := fun f k => by
      rw [← f1 f k, eσ3]
      split <;> rfl
    have hD3 : ∀ f k, ¬ ((f = 19 ∨ f = 21) ∧ k = b) → sD σ3 f k = sD σ f k := fun f k g => by
      have w : sD σ3 f k = sD σ2 f k := by
        rw [eσ3]
        split <;> rfl
      rw [w, f3 f k g]; exact x5 f k
    have hT3 : ∀ f k, ¬ ((f = 1018 ∨ f = 1019 ∨ f = 1021 ∨ f = 1022 ∨ f = 1032) ∧ k = b) → ¬ (f = 1029 ∧ (k = 10 * b + 4 ∨ k = 10 * b + 5)) → ¬ inArr f → ¬ (f = 1014 ∧ k = b) → f ≠ 1023 → ¬ (1038 ≤ f ∧ f ≤ 1042) → sI τ2 f k = sI τ f k := by
      intro f k g1 g2 g3 g4 g5 g6
      rw [f4 f k g1 g2 (by omega)]
      by_cases e : f = 1014
      · subst e; exact y2 k (by omega)
      · exact y1 f k g3 e g5 g6
    have hTD3 : ∀ f k, ¬ ((f = 1017 ∨ f = 1020) ∧ k = b) → sD τ2 f k = sD τ f k := fun f k g => (f5 f k g).trans (y3 f k)
    have s45 : r = 0 → sI σ3 45 b = sI σ 45 b + 1 := fun e => by
      rw [eσ3, if_pos e, sI_upI, if_pos ⟨rfl, rfl⟩, f2 45 b (by omega) (by omega), x4 45 b (by omega) (by omega) (by omega) (by omega) (by omega)]
    have s45' : ¬ r = 0 → sI σ3 45 b = sI σ 45 b := fun e => by
      rw [eσ3, if_neg e, sI_upI, if_neg (by omega), f2 45 b (by omega) (by omega), x4 45 b (by omega) (by omega) (by omega) (by omega) (by omega)]
    have s46 : sI σ3 46 b = sI σ2 46 b := by
      rw [eσ3]
      split <;> rw [sI_upI, if_neg (by omega)]
    have s38 : r = 0 → sI σ3 38 b = nI d := fun e => by
      rw [eσ3, if_pos e, sI_upI, if_neg (by omega), f2 38 b (by omega) (by omega), x4 38 b (by omega) (by omega) (by omega) (by omega) (by omega)]
      exact d1
    have s38' : ¬ r = 0 → sI σ3 38 b = nI (d - bp) := fun e => by
      rw [eσ3, if_neg e, sI_upI, if_pos ⟨rfl, rfl⟩, f2 38 b (by omega) (by omega), x4 38 b (by omega) (by omega) (by omega) (by omega) (by omega), d1, f2 82 p (by omega) (by omega), x4 82 p (by omega) (by omega) (by omega) (by omega) (by omega), b3, pk_sub hcmp]
    have t32 : sI τ1 1032 b = nI d := by rw [y1 1032 b (by omega) (by omega) (by omega) (by omega)]; exact e32
    have t39' : sI τ1 1039 0 = nI bp := by rw [t39]; exact b3
    have s85 : sI σ3 85 p = sI σ2 85 p := by
      rw [eσ3]
      split <;> rw [sI_upI, if_neg (by omega)]
    have h114 : sI σ3 114 0 = 1 := by rw [hI3 114 0 (by omega) (by omega) (by omega) (by omega) (by omega) (by omega)]; exact hg
    have hl3 := hW1.len
    -- the parts
    have pQ : SQ n σ3 τ2 (qset qs b u) := hQ1.congr hl3 (fun f k _ => hR3 f k) (fun q _ => hR3 87 q) (fun f q hf hq2 => hI32 f q (by omega) (by have := hneq q hq2; omega)) (fun f j hf => hI32 f j (by omega) (by omega)) (fun k => f4 1023 k (by omega) (by omega) (by omega)) (fun f k hf => f4 f k (by omega) (by omega) (by omega))
    have pW : SW σ3 (qset qs b u) := hW1.congr (fun f hf => hI32 f 0 (by omega) (by omega)) (fun q _ => hI32 82 q (by omega) (by omega))
    have pS : SS now σ3 τ2 := hS.congr (fun f hf => hI3 f 0 (by omega) (by omega) (by omega) (by omega) (by omega) (by omega)) (fun f hf => hD3 f 0 (by omega)) (fun f hf => hT3 f 0 (by omega) (by omega) (by omega) (by omega) (by omega) (by omega)) (fun f hf => hTD3 f 0 (by omega))
    have pC : SC σ3 τ2 := by
      intro j hj
      by_cases e : j = b
      · subst e
        obtain ⟨w0, w1, w2, w3, w4, w5, w8⟩ := hC j hj
        have gI : ∀ f, f = 40 ∨ f = 41 ∨ f = 42 ∨ f = 43 ∨ f = 44 → sI σ3 f j = sI σ f j := fun f hf => hI3 f j (by omega) (by omega) (by omega) (by omega) (by omega) (by omega)
        have gT : ∀ k, k = 0 ∨ k = 1 ∨ k = 2 ∨ k = 3 ∨ k = 8 → sI τ2 1029 (10 * j + k) = sI τ 1029 (10 * j + k) := fun k hk => hT3 _ _ (by omega) (by omega) (by omega) (by omega) (by omega) (by omega)
        have gt4 : sI τ1 1029 (10 * j + 4) = sI τ 1029 (10 * j + 4) := y1 _ _ (by omega) (by omega) (by omega) (by omega)
        have gt5 : sI τ1 1029 (10 * j + 5) = sI τ 1029 (10 * j + 5) := y1 _ _ (by omega) (by omega) (by omega) (by omega)
        have g46 : sI σ1 46 j = sI σ 46 j := x4 46 j (by omega) (by omega) (by omega) (by omega) (by omega)
        refine ⟨by rw [gI 40 (by omega), gT 0 (by omega)]; exact w0, by rw [gI 41 (by omega), gT 1 (by omega)]; exact w1, by rw [gI 43 (by omega), gT 2 (by omega)]; exact w2, by rw [gI 44 (by omega), gT 3 (by omega)]; exact w3, ?_, ?_, by rw [gI 42 (by omega), gT 8 (by omega)]; exact w8⟩
        · rcases hr with e0 | e1
          · rw [s45 e0, (v1 e0).2, gt4, w4]
          · rw [s45' (by rw [e1]; decide), (v2 e1).2.1, gt4, w4]
        · rcases v4 with ⟨q1, q2⟩ | ⟨q1, q2⟩
          · rw [s46, q1, q2, g46, gt5, w5]
          · rw [s46, q1, q2, g46, gt5, w5]
      · exact (hC j hj).congr (fun f hf => hI3 f j (by omega) (by omega) (by omega) (by omega) (by omega) (by omega)) (fun k hk => hT3 _ _ (by omega) (by omega) (by omega) (by omega) (by omega) (by omega))
    have pK : SK σ3 τ2 := hK.congr (fun f j hf => hI3 f j (by omega) (by omega) (by omega) (by omega) (by omega) (by omega)) (fun f j hf => hT3 f j (by omega) (by omega) (by omega) (by omega) (by omega) (by omega))
    have pF : SF σ3 τ2 (b :: t) := by
      intro j hj
      by_cases e : j = b
      · subst e
        rcases hr with e0 | e1
        · exact ⟨fun _ => by rw [s38 e0, (v1 e0).1, t32], fun w => absurd (by simp) w, d, s38 e0, d3, Or.inr ⟨rfl, by rw [h114]; decide⟩⟩
        · have hz : ¬ r = 0 := by rw [e1]; decide
          exact ⟨fun _ => by rw [s38' hz, (v2 e1).1, t32, t39', pk_sub hcmp], fun w => absurd (by simp) w, d - bp, s38' hz, by omega, Or.inr ⟨rfl, by rw [h114]; decide⟩⟩
      · obtain ⟨w1, w2, d', w3, w4, w5⟩ := hF j hj
        have e1 : sI σ3 38 j = sI σ 38 j := hI3 38 j (by omega) (by omega) (by omega) (by omega) (by omega) (by omega)
        have e2 : sI τ2 1032 j = sI τ 1032 j := hT3 1032 j (by omega) (by omega) (by omega) (by omega) (by omega) (by omega)
        refine ⟨fun w => by rw [e1, e2]; exact w1 w, fun w => by rw [e1]; exact w2 w, d', by rw [e1]; exact w3, w4, ?_⟩
        rcases w5 with w | w
        · exact Or.inl w
        · exact Or.inr ⟨w.1, by rw [h114]; decide⟩
    have pB : SB σ3 τ2 := by
      refine ⟨?_, by rw [h114]; exact isB1⟩
      rw [h114, hT3 1033 0 (by omega) (by omega) (by omega) (by omega) (by omega) (by omega), ← hB.1, hg]
    have pR : RC σ3 (b :: t) := hR.congr (by rw [hR3]; exact x3 112 0 (by omega) (by omega) (by omega)) (by rw [hR3]; exact x3 113 0 (by omega) (by omega) (by omega)) (fun i => by rw [hR3]; exact x3 39 i (by omega) (by omega) (by omega))
    have pM : MR τ2 (b :: t) := hM.congr (hT3 1030 0 (by omega) (by omega) (by omega) (by omega) (by omega) (by omega)) (fun k => hT3 1031 k (by omega) (by omega) (by omega) (by omega) (by omega) (by omega))
    have pRQ : ∀ j, j < 6 → j ≠ b → (j ∈ b :: t ↔ qset qs b u j ≠ []) := fun j hj e => by rw [qset_n u e]; exact hRQ j hj
    have pL : SL n σ3 τ2 (qset qs b u) (some p) := by
      refine hL.congr (hI3 65 0 (by omega) (by omega) (by omega) (by omega) (by omega) (by omega)) (hT3 1036 0 (by omega) (by omega) (by omega) (by omega) (by omega) (by omega)) (fun k => hT3 1037 k (by omega) (by omega) (by omega) (by omega) (by omega) (by omega)) (fun k => by rw [hR3]; exact x3 64 k (by omega) (by omega) (by omega)) (fun k => by rw [hR3]; exact x3 81 k (by omega) (by omega) (by omega)) (fun f q hf hq2 _ => ?_) (fun q hq2 => Or.inl ?_) ?_
      · have hqp : q ≠ p := fun e => hq2 ⟨b, hb6, by rw [e, hq]; simp⟩
        exact hI3 f q (by omega) (by omega) (by omega) (by omega) (by omega) (by omega)
      · rcases hq2 with w | w
        · exact hlv q w
        · cases w
          exact ⟨b, hb6, by rw [hq]; simp⟩
      · rw [← eW, ← eW']
        show W' + 1 ≤ W + 0
        omega
    have pRF : RF n σ3 := by
      refine ⟨fun k q hk => hRF.1 k q ?_, fun k q hk => ?_⟩
      · rw [hR3, x3 64 k (by omega) (by omega) (by omega)] at hk; exact hk
      · rw [hR3] at hk
        rcases x2 k with w | w
        · rw [w] at hk; cases hk
        · exact hRF.2 k q (by rw [← w]; exact hk)
    have pCV : CV 600 σ3 τ2 := hCV.congr (hI3 1 0 (by omega) (by omega) (by omega) (by omega) (by omega) (by omega)) (hI3 2 0 (by omega) (by omega) (by omega) (by omega) (by omega) (by omega)) (fun k => hD3 0 k (by omega)) (hT3 1034 0 (by omega) (by omega) (by omega) (by omega) (by omega) (by omega)) (fun k => hTD3 1035 k (by omega))
    have pDV : ∀ j, j < 6 → DV (n - tot (fun j => (qset qs b u j).length)) σ3 τ2 j := by
      intro j hj
      rw [← eW', show n - W' = n - W + 1 by omega]
      by_cases e : j = b
      · subst e
        refine hD2.congr (fun f hf => ?_) (fun f hf => ?_) (fun _ _ => rfl) (fun _ _ => rfl)
        · rw [eσ3]
          split <;> rw [sI_upI, if_neg (by omega)]
        · rw [eσ3]
          split <;> rfl
      · refine DV.mono (m := n - W) ?_ (Nat.le_succ _)
        rw [eW]
        exact (hDV j hj).congr (fun f hf => hI3 f j (by omega) (by omega) (by omega) (by omega) (by omega) (by omega)) (fun f hf => hD3 f j (by omega)) (fun f hf => hT3 f j (by omega) (by omega) (by omega) (by omega) (by omega) (by omega)) (fun f hf => hTD3 f j (by omega))
    have pMV : ∀ j, j < 6 → j ≠ b → MV now σ3 τ2 j := fun j hj e => (hMV j hj).congr (fun f hf => hI3 f j (by omega) (by omega) (by omega) (by omega) (by omega) (by omega)) (fun f hf => hD3 f j (by omega)) (fun f hf => hT3 f j (by omega) (by omega) (by omega) (by omega) (by omega) (by omega)) (fun f hf => hTD3 f j (by omega))
    have m14 : sI τ2 1014 b = (if u = [] then nI now else sI τ 1014 b) := by
      rw [f4 1014 b (by omega) (by omega) (by omega), t14, hS.2.1]
    have pMb : qset qs b u b ≠ [] → MV now σ3 τ2 b := fun hu => by
      rw [qset_s] at hu
      refine (hMV b hb6).congr (fun f hf => hI3 f b (by omega) (by omega) (by omega) (by omega) (by omega) (by omega)) (fun f hf => hD3 f b (by omega)) (fun f hf => ?_) (fun f hf => hTD3 f b (by omega))
      rcases hf with rfl | rfl
      · exact hT3 1013 b (by omega) (by omega) (by omega) (by omega) (by omega) (by omega)
      · rw [m14, if_neg hu]
    have pMe : qset qs b u b = [] → MV now (upI σ3 54 b (nI now)) τ2 b := fun hu => by
      rw [qset_s] at hu
      obtain ⟨⟨w1, w2, w3, w4, w5, w6, w7⟩, D2, D3, D4, D5, D6, D7, e, D8, D9⟩ := hMV b hb6
      have gD : ∀ f, 48 ≤ f ∧ f ≤ 52 → sD (upI σ3 54 b (nI now)) f b = sD σ f b := fun f hf => by
        rw [sD_upI]; exact hD3 f b (by omega)
      have gT : ∀ f, 1008 ≤ f ∧ f ≤ 1012 → sD τ2 f b = sD τ f b := fun f hf => hTD3 f b (by omega)
      have g53 : sI (upI σ3 54 b (nI now)) 53 b = sI σ 53 b := by
        rw [sI_upI, if_neg (by omega)]
        exact hI3 53 b (by omega) (by omega) (by omega) (by omega) (by omega) (by omega)
      have g54 : sI (upI σ3 54 b (nI now)) 54 b = nI now := by rw [sI_upI, if_pos ⟨rfl, rfl⟩]
      have g13 : sI τ2 1013 b = sI τ 1013 b := hT3 1013 b (by omega) (by omega) (by omega) (by omega) (by omega) (by omega)
      unfold MV
      rw [gD 48 (by omega), gD 49 (by omega), gD 50 (by omega), gD 51 (by omega), gD 52 (by omega), gT 1008 (by omega), gT 1009 (by omega), gT 1010 (by omega), gT 1011 (by omega), gT 1012 (by omega), g53, g54, g13, m14, if_pos hu]
      exact ⟨⟨w1, w2, w3, w4, w5, w6, rfl⟩, D2, D3, D4, D5, D6, D7, now, rfl, Nat.le_refl _⟩
    obtain ⟨σ', τ', rd', fc, fm, hSim, g1, g2, g3, g4, g5f, g6f⟩ := fin_ok (p := p) hb6 pQ pW pS pC pK pF pB pR pM pRQ pL pRF pCV pDV pMV pMb pMe hn
    have hfr3 : sD σ' 138 0 = sD σ0 138 0 := by rw [g5f, hD3 138 0 (by omega)]; exact hfr0
    have hth3 : sI τ' 1000 0 = sI τ0 1000 0 := by rw [g6f, hT3 1000 0 (by omega) (by omega) (by omega) (by omega) (by omega) (by omega)]; exact hth0
    -- both sides' runs
    have runM : ∀ (K : Int32 → ST → Prop) (fu : Nat), (r = 0 → wp_X9_choose_L0 K fu τ') → (r = 1 → K (nI b) τ') → wp_X9_choose_L0 K (fu + 1) τ0 := by
      intro K fu h0 h1
      refine km K fu ?_
      unfold wp_X9_choose_J45
      rw [z31, e100, c100, hc, e25, e32]
      refine ⟨i100, hin, fun _ => mk _ ?_, fun w => absurd hle w⟩
      have hfin : wp_X9_choose_J206 (if r = 0 then 1 else 0) τ0 K (wp_X9_choose_L0 K fu) τ2 → cM τ0 K (wp_X9_choose_L0 K fu) τ1 := ok2 τ0 K (wp_X9_choose_L0 K fu) z31
      have hcm : cM τ0 K (wp_X9_choose_L0 K fu) τ1 := by
        refine hfin ?_
        unfold wp_X9_choose_J206
        rw [z31, hc]
        refine ⟨hin, fm (fun s => wp_X9_choose_J219 (if r = 0 then 1 else 0) τ0 K (wp_X9_choose_L0 K fu) s) ?_⟩
        unfold wp_X9_choose_J219
        rw [z31]
        rcases hr with e0 | e1
        · rw [if_pos e0]
          exact ⟨fun _ => h0 e0, fun w => absurd w (by decide)⟩
        · rw [if_neg (by rw [e1]; decide)]
          exact ⟨fun w => absurd rfl w, fun _ => h1 e1⟩
      unfold cM at hcm
      rw [z31, hc] at hcm
      exact hcm
    have runC : ∀ (K : Option Nat → ST → Prop), (r = 0 → K none σ') → (r = 1 → K (some p) σ') → wp_X8_lookAt n σ0 b K := by
      intro K h0 h1
      unfold wp_X8_lookAt
      refine kb _ ⟨hb6, hb6, fun w => ?_, fun b4 hb4 => ?_⟩
      · rw [a1] at w; cases w
      · rw [a1] at hb4; cases hb4
        refine ⟨hp.1, fun _ => ck _ ?_, fun w => ?_⟩
        · have e132 : sI σ1 132 0 = nI now := hS1.1
          rw [e132]
          refine ok1 _ ?_
          rcases hr with e0 | e1
          · refine ⟨fun _ s11 e11 => ?_, fun w => absurd e0 w⟩
            have es : s11 = σ3 := by rw [e11, eσ3, if_pos e0]
            rw [es]
            have q := fc (fun s => K none s) (h0 e0)
            refine ⟨fun w => ⟨fun _ => q.1 w, fun w2 => absurd e0 w2⟩, fun w => ?_⟩
            have q2 := fc (fun s => (r = 0 → K none s) ∧ (¬ r = 0 → K (some p) s)) ⟨fun _ => h0 e0, fun w2 => absurd e0 w2⟩
            exact q2.2 w
          · have hz : ¬ r = 0 := by rw [e1]; decide
            refine ⟨fun w => absurd w hz, fun _ s15 e15 => ?_⟩
            have es : s15 = σ3 := by rw [e15, eσ3, if_neg hz]
            rw [es]
            have q := fc (fun s => K (some p) s) (h1 e1)
            refine ⟨fun w => ⟨fun w2 => absurd w2 hz, fun _ => q.1 w⟩, fun w => ?_⟩
            have q2 := fc (fun s => (r = 0 → K none s) ∧ (¬ r = 0 → K (some p) s)) ⟨fun w2 => absurd w2 hz, fun _ => h1 e1⟩
            exact q2.2 w
        · rw [b3, d1] at w
          exact absurd hle w
    rcases hr with e0 | e1
    · -- dropped
      refine ⟨none, σ', τ', qset qs b u, rd', fun K hKK => runC K (fun _ => hKK) (fun w => absurd (e0.symm.trans w) (by decide)), fun K fu hA hB2 => runM K fu (fun _ => hA rfl) (fun w => absurd (e0.symm.trans w) (by decide)), ?_, fun _ => ?_, fun q hq2 => (by cases hq2), ?_, hfr3, hth3⟩
      · obtain ⟨s1, s2, s3, s4, s5, s6, s7, s8, s9, s10, s11, s12, s13, s14, s15, s16⟩ := hSim
        exact ⟨s1, s2, s3, s4, s5, s6, s7, s8, s9, s10, s11.congr rfl rfl (fun _ => rfl) (fun _ => rfl) (fun _ => rfl) (fun _ _ _ _ _ => rfl) (fun q w => by
          rcases w with w | w
          · exact Or.inl w
          · cases w) (by show _ + 0 ≤ _ + 1; omega), s12, s13, s14, s15, s16⟩
      · have z3 : (tot fun j => 1500 - dv σ3 j) = tot fun j => 1500 - dv σ j := tot_congr (fun j _ => by
          unfold dv
          by_cases e : j = b
          · subst e; rw [s38 e0, d1]
          · rw [hI3 38 j (by omega) (by omega) (by omega) (by omega) (by omega) (by omega)])
        have g5 : mu σ3 (qset qs b u) + 1502 = mu σ qs := by
          unfold mu
          rw [z3, h114, hg, ← eW, ← eW']
          omega
        omega
      · rw [← eW, ← eW']; show W' + 0 ≤ W; omega
    · refine ⟨some p, σ', τ', qset qs b u, rd', fun K hKK => runC K (fun w => absurd (e1.symm.trans w) (by decide)) (fun _ => hKK), fun K fu hA hB2 => runM K fu (fun w => absurd (e1.symm.trans w) (by decide)) (fun _ => hB2 ⟨p, rfl⟩), hSim, fun w => (by cases w), fun q hq2 => ?_, ?_, hfr3, hth3⟩
      · cases hq2
        have e8 : ∀ f, 80 ≤ f ∧ f ≤ 86 → sI σ' f p = sI σ3 f p := fun f hf => g1 f p hf
        have e8' : ∀ f, f = 80 ∨ f = 82 ∨ f = 83 ∨ f = 84 → sI σ3 f p = sI σ f p := fun f hf => hI3 f p (by omega) (by omega) (by omega) (by omega) (by omega) (by omega)
        have e3x : ∀ f, f = 1038 ∨ f = 1039 ∨ f = 1040 → sI τ' f 0 = sI τ1 f 0 := fun f hf => by
          rw [g3 f (by omega)]; exact f4 f 0 (by omega) (by omega) (by omega)
        have e81 : sR σ' 81 p = some b := by rw [g2, hR3]; exact hp1.2.1
        refine ⟨⟨hb6, ⟨hp.1, e81, ⟨bp, b1, b2, by rw [e8 82 (by omega), e8' 82 (by omega)]; exact b3⟩, by rw [e8 84 (by omega), e8' 84 (by omega)]; exact hp.2.2.2.1, by rw [e8 85 (by omega), s85]; exact v3⟩, ?_, ?_, ?_, ?_, ?_⟩, hnl⟩
        · rw [e8 86 (by omega), e8 83 (by omega), e8' 83 (by omega), hI32 86 p (by omega) (by omega)]; exact h86
        · rw [e3x 1038 (by omega), e8 80 (by omega), e8' 80 (by omega)]; exact t38
        · rw [e3x 1039 (by omega), e8 82 (by omega), e8' 82 (by omega)]; exact t39
        · rw [e3x 1040 (by omega), e8 83 (by omega), e8' 83 (by omega)]; exact t40
        · rw [g3 1042 (by omega), e8 85 (by omega), s85]; exact (v2 e1).2.2
      · rw [← eW, ← eW']; show W' + 1 ≤ W; omega
  · have hle : ¬ nI bp ≤ nI d := nI_ge (by omega) (by omega)
    obtain ⟨σ', τ', ck, mk, hSim, hm, hfp, hthp⟩ := pass_ok h hg (by rw [d2]; omega)
    refine ⟨none, σ', τ', qs, t ++ [b], fun K hKK => ?_, fun K fu hA _ => km K fu ?_, hSim, fun _ => by omega, fun q hq2 => (by cases hq2), Nat.le_refl _, hfp.trans hfr0, hthp.trans hth0⟩
    · unfold wp_X8_lookAt
      refine kb _ ⟨hb6, hb6, fun w => ?_, fun b4 hb4 => ?_⟩
      · rw [a1] at w; cases w
      · rw [a1] at hb4; cases hb4
        refine ⟨hp.1, fun w => ?_, fun _ => ck _ hKK⟩
        rw [b3, d1] at w
        exact absurd w hle
    · unfold wp_X9_choose_J45
      rw [z31, e100, c100, hc, e25, e32]
      exact ⟨i100, hin, fun w => absurd w hle, fun _ => mk _ (hA rfl)⟩
