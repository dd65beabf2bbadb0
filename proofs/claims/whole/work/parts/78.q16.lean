theorem xz (x : Int32) : x + nI 0 = x := by rw [nI_0]; exact Int32.add_zero x
theorem xs1 (x : Int32) (k : Nat) : x + 1 + nI k = x + nI (k + 1) := by
  rw [Int32.add_assoc, show (1 : Int32) = nI 1 from rfl, nI_add, Nat.add_comm 1 k]
/-- one tick's sendings, both sides -/
theorem gone_loop {n now : Nat} : ∀ (m g : Nat) (x2 : Int32) (qs : Nat → List Nat) (rd : List Nat) (σ τ : ST), tot (fun j => (qs j).length) ≤ m → g + m ≤ 100 → Sim n now qs rd none σ τ →
    ∃ (k : Nat) (σ' τ' : ST) (qs' : Nat → List Nat) (rd' : List Nat), (∃ f, ∀ K : Int32 → ST → Prop, K (nI (g + k)) σ' → wp_X8_oneTick_L12 n K f σ (nI g)) ∧ (∃ f, ∀ (a1 x3 : Int32) (K : Int32 → ST → Prop) (J : ST → Int32 → Int32 → Prop), J τ' (x3 + 1) (x2 + nI k) → ((0 < (Op.cmpValue (FP.dcmp (sD τ 1005 0) (FP.i2d (sI τ 1001 0))) .g) → wp_X9_tick_L64 a1 x3 K J f τ 0 x2) ∧ (¬ (0 < (Op.cmpValue (FP.dcmp (sD τ 1005 0) (FP.i2d (sI τ 1001 0))) .g)) → wp_X9_tick_L64 a1 x3 K J f τ 1 x2))) ∧ Sim n now qs' rd' none σ' τ' ∧ sI τ' 1000 0 = sI τ 1000 0 := by
  intro m
  induction m with
  | zero =>
    intro g x2 qs rd σ τ hm hg hSim
    obtain ⟨s1, s2, s3, s4, s5, s6, s7, s8, s9, s10, s11⟩ := hSim.2.2.1
    by_cases hc : 0 < (Op.cmpValue (FP.dcmp (sD σ 138 0) (FP.i2d (nI now))) .g)
    · refine ⟨0, σ, τ, qs, rd, ⟨1, fun K hK => ⟨fun _ => hK, fun w => absurd (by rw [s1]; exact hc) w⟩⟩, ⟨1, fun a1 x3 K J hJ => ⟨fun _ => ⟨fun _ => (by rw [xz] at hJ; exact hJ), fun w => absurd rfl w⟩, fun w => absurd (by rw [← s9, s2]; exact hc) w⟩⟩, hSim, rfl⟩
    · obtain ⟨r, bm, σ1, τ1, qs1, rd1, k1, k2, q1, q2, hS1, htot, hfr0, hth0⟩ := choose_ok hSim
      have hr : r = none := by
        cases hr : r with
        | none => rfl
        | some p => rw [hr] at htot; have : xc (some p) = 1 := rfl; omega
      subst hr
      have hbm := q1 rfl
      subst hbm
      obtain ⟨hQ, hW, hS, hC, hK, hF, hB, hR, hM, hRQ, hL, hRF, hCV, hDV, hMV, hn⟩ := hS1
      have hT : Sim n now qs1 rd1 none (upD σ1 138 0 (FP.i2d (nI now))) (upD τ1 1005 0 (FP.i2d (nI now))) := by
        refine ⟨hQ.congr hW.len (fun _ _ _ => rfl) (fun _ _ => rfl) (fun _ _ _ _ => rfl) (fun _ _ _ => rfl) (fun _ => rfl) (fun _ _ _ => rfl), hW.congr (fun _ _ => rfl) (fun _ _ => rfl), ?_, hC, hK, hF, hB, hR.congr rfl rfl (fun _ => rfl), hM, hRQ, hL, hRF, hCV.congr rfl rfl (fun k => by rw [sD_upD, if_neg (by omega)]) rfl (fun k => by rw [sD_upD, if_neg (by omega)]), fun j hj => (hDV j hj).congr (fun _ _ => rfl) (fun f hf => by rw [sD_upD, if_neg (by omega)]) (fun _ _ => rfl) (fun f hf => by rw [sD_upD, if_neg (by omega)]), fun j hj => (hMV j hj).congr (fun _ _ => rfl) (fun f hf => by rw [sD_upD, if_neg (by omega)]) (fun _ _ => rfl) (fun f hf => by rw [sD_upD, if_neg (by omega)]), hn⟩
        obtain ⟨u1, u2, u3, u4, u5, u6, u7, u8, u9, u10, u11⟩ := hS
        unfold SS
        simp only [sI_upD, sD_upD]
        rw [if_neg (by omega), if_neg (by omega), if_pos (by simp), if_pos (by simp)]
        exact ⟨u1, u2, u3, u4, u5, u6, u7, u8, rfl, u10, (now_bd u3).weaken (by decide) (by decide)⟩
      have hg100 : ¬ (100 : Int32) < nI g := nI_nlt (a := 100) (by omega) (by decide)
      refine ⟨0, _, _, qs1, rd1, ⟨1, fun K hK => ⟨fun w => absurd (by rw [s1] at w; exact w) hc, fun _ => ⟨fun w => absurd w hg100, fun _ => k1 _ ⟨fun _ s6 e6 => ?_, fun b hb => (by cases hb)⟩⟩⟩⟩, ⟨2, fun a1 x3 K J hJ => ⟨fun w => absurd (by rw [← s9, s2] at w; exact w) hc, fun _ => ⟨fun w => absurd w (by decide), fun _ => k2 _ ⟨fun w => absurd w (by decide), fun _ s9' e9 => ?_⟩⟩⟩⟩, hT, hth0⟩
      · rw [hS.1] at e6; subst e6; exact hK
      · rw [hS.2.1] at e9
        subst e9
        rw [xz] at hJ
        exact ⟨fun _ => hJ, fun w => absurd rfl w⟩
  | succ m ih =>
    intro g x2 qs rd σ τ hm hg hSim
    obtain ⟨s1, s2, s3, s4, s5, s6, s7, s8, s9, s10, s11⟩ := hSim.2.2.1
    by_cases hc : 0 < (Op.cmpValue (FP.dcmp (sD σ 138 0) (FP.i2d (nI now))) .g)
    · refine ⟨0, σ, τ, qs, rd, ⟨1, fun K hK => ⟨fun _ => hK, fun w => absurd (by rw [s1]; exact hc) w⟩⟩, ⟨1, fun a1 x3 K J hJ => ⟨fun _ => ⟨fun _ => (by rw [xz] at hJ; exact hJ), fun w => absurd rfl w⟩, fun w => absurd (by rw [← s9, s2]; exact hc) w⟩⟩, hSim, rfl⟩
    · obtain ⟨r, bm, σ1, τ1, qs1, rd1, k1, k2, q1, q2, hS1, htot, hfr0, hth0⟩ := choose_ok hSim
      have hg100 : ¬ (100 : Int32) < nI g := nI_nlt (a := 100) (by omega) (by decide)
      cases hr : r with
      | none =>
        subst hr
        have hbm := q1 rfl
        subst hbm
        obtain ⟨hQ, hW, hS, hC, hK, hF, hB, hR, hM, hRQ, hL, hRF, hCV, hDV, hMV, hn⟩ := hS1
        have hT : Sim n now qs1 rd1 none (upD σ1 138 0 (FP.i2d (nI now))) (upD τ1 1005 0 (FP.i2d (nI now))) := by
          refine ⟨hQ.congr hW.len (fun _ _ _ => rfl) (fun _ _ => rfl) (fun _ _ _ _ => rfl) (fun _ _ _ => rfl) (fun _ => rfl) (fun _ _ _ => rfl), hW.congr (fun _ _ => rfl) (fun _ _ => rfl), ?_, hC, hK, hF, hB, hR.congr rfl rfl (fun _ => rfl), hM, hRQ, hL, hRF, hCV.congr rfl rfl (fun k => by rw [sD_upD, if_neg (by omega)]) rfl (fun k => by rw [sD_upD, if_neg (by omega)]), fun j hj => (hDV j hj).congr (fun _ _ => rfl) (fun f hf => by rw [sD_upD, if_neg (by omega)]) (fun _ _ => rfl) (fun f hf => by rw [sD_upD, if_neg (by omega)]), fun j hj => (hMV j hj).congr (fun _ _ => rfl) (fun f hf => by rw [sD_upD, if_neg (by omega)]) (fun _ _ => rfl) (fun f hf => by rw [sD_upD, if_neg (by omega)]), hn⟩
          obtain ⟨u1, u2, u3, u4, u5, u6, u7, u8, u9, u10, u11⟩ := hS
          unfold SS
          simp only [sI_upD, sD_upD]
          rw [if_neg (by omega), if_neg (by omega), if_pos (by simp), if_pos (by simp)]
          exact ⟨u1, u2, u3, u4, u5, u6, u7, u8, rfl, u10, (now_bd u3).weaken (by decide) (by decide)⟩
        refine ⟨0, _, _, qs1, rd1, ⟨1, fun K hK => ⟨fun w => absurd (by rw [s1] at w; exact w) hc, fun _ => ⟨fun w => absurd w hg100, fun _ => k1 _ ⟨fun _ s6 e6 => ?_, fun b hb => (by cases hb)⟩⟩⟩⟩, ⟨2, fun a1 x3 K J hJ => ⟨fun w => absurd (by rw [← s9, s2] at w; exact w) hc, fun _ => ⟨fun w => absurd w (by decide), fun _ => k2 _ ⟨fun w => absurd w (by decide), fun _ s9' e9 => ?_⟩⟩⟩⟩, hT, hth0⟩
        · rw [hS.1] at e6; subst e6; exact hK
        · rw [hS.2.1] at e9
          subst e9
          rw [xz] at hJ
          exact ⟨fun _ => hJ, fun w => absurd rfl w⟩
      | some p =>
        subst hr
        obtain ⟨b, hbm, hFL, hnl⟩ := q2 p rfl
        subst hbm
        have hx1 : xc (some p) = 1 := rfl
        have hb6 := hFL.1
        have hfr : ZF (sD σ1 138 0) ≤ ZF (FP.i2d (nI now)) := by
          rw [hfr0]
          have hb := now_bd s3
          refine Int.not_lt.mp fun w => hc ((c_gt s11.1 hb.1).mpr w)
        obtain ⟨σ2, τ2, w1, w2, hS2, hths⟩ := send_ok hS1 hFL hnl hfr
        obtain ⟨k, σ', τ', qs', rd', ⟨fc, kc⟩, ⟨fm, km⟩, hS3, hth3⟩ := ih (g + 1) (x2 + 1) qs1 rd1 σ2 τ2 (by omega) (by omega) hS2
        refine ⟨k + 1, σ', τ', qs', rd', ⟨fc + 1, fun K hK => ⟨fun w => absurd (by rw [s1] at w; exact w) hc, fun _ => ⟨fun w => absurd w hg100, fun _ => k1 _ ⟨fun w => (by cases w), fun b4 hb4 => ?_⟩⟩⟩⟩, ⟨fm + 1, fun a1 x3 K J hJ => ⟨fun w => absurd (by rw [← s9, s2] at w; exact w) hc, fun _ => ⟨fun w => absurd w (by decide), fun _ => k2 _ ⟨fun _ => w2 _ ?_, fun w => absurd (nI_pos' (by omega)) w⟩⟩⟩⟩, hS3, hth3.trans (hths.trans hth0)⟩
        · cases hb4
          refine w1 _ ?_
          rw [nI_1]
          exact kc K (by rw [show g + 1 + k = g + (k + 1) by omega]; exact hK)
        · exact km a1 x3 K J (by rw [xs1]; exact hJ)
