theorem cls_of {x : Int32} (h0 : ¬ x < 0) (h6 : ¬ 6 ≤ x) : ∃ b : Nat, b < 6 ∧ x = nI b := by
  obtain ⟨j, hj, rfl⟩ := nI_of h0
  exact ⟨j, Nat.lt_of_not_le (fun w => h6 ((nI_leI (a := 6) (by decide) hj).mpr w)), rfl⟩
theorem rng_of {x : Int32} (lo hi : Nat) (hlo : lo < 2 ^ 31) (hhi : hi < 2 ^ 31) (h0 : ¬ x < nI lo) (h1 : x ≤ nI hi) : ∃ j : Nat, lo ≤ j ∧ j ≤ hi ∧ x = nI j := by
  have a := Int32.le_iff_toInt_le.mp (Int32.not_lt.mp h0)
  have b := Int32.le_iff_toInt_le.mp h1
  rw [nI_toInt hlo] at a
  rw [nI_toInt hhi] at b
  exact ⟨x.toInt.toNat, by omega, by omega, Int32.toInt_inj.mp (by rw [nI_toInt (by omega)]; omega)⟩
theorem le_lt {x : Int32} (k : Nat) (hk : k + 1 < 2 ^ 31) : nI (k + 1) ≤ x ↔ nI k < x := by
  rw [Int32.le_iff_toInt_le, Int32.lt_iff_toInt_lt, nI_toInt hk, nI_toInt (by omega)]
  omega
theorem fl_bad {n : Nat} {σ : ST} {a : Int32} {K : Option Nat → ST → Prop} {KX : String → ST → Prop} (h : a < 0 ∨ 6 ≤ a) (hK : KX "java/lang/IllegalArgumentException" σ) : wp_X8_flowAt n σ a K KX := by
  by_cases h0 : a < 0
  · exact ⟨fun _ => hK, fun w => absurd h0 w⟩
  · have h6 : 6 ≤ a := by
      rcases h with h | h
      · exact absurd h h0
      · exact h
    exact ⟨fun w => absurd w h0, fun _ => ⟨fun _ => hK, fun w => absurd h6 w⟩⟩
theorem fl_ok {n b : Nat} {σ : ST} {K : Option Nat → ST → Prop} {KX : String → ST → Prop} (hb : b < 6) (hK : K (some b) σ) : wp_X8_flowAt n σ (nI b) K KX := by
  unfold wp_X8_flowAt
  rw [nI_clamp (by omega)]
  exact ⟨fun w => absurd w (nI_pos (by omega)), fun _ => ⟨fun w => absurd w (nI_ge (b := 6) hb (by decide)), fun _ => ⟨vp_in_nI hb (by decide), hK⟩⟩⟩
theorem isIn_t {σ : ST} {a lo hi : Int32} {K : Int32 → ST → Prop} (h1 : ¬ a < lo) (h2 : ¬ hi < a) (hK : K 1 σ) : wp_X9_isIn σ a lo hi K := ⟨fun w => absurd w h1, fun _ => ⟨fun w => absurd w h2, fun _ => hK⟩⟩
theorem isIn_f {σ : ST} {a lo hi : Int32} {K : Int32 → ST → Prop} (h : a < lo ∨ hi < a) (hK : K 0 σ) : wp_X9_isIn σ a lo hi K := by
  by_cases h0 : a < lo
  · exact ⟨fun _ => hK, fun w => absurd h0 w⟩
  · have h6 : hi < a := by
      rcases h with h | h
      · exact absurd h h0
      · exact h
    exact ⟨fun w => absurd w h0, fun _ => ⟨fun _ => hK, fun w => absurd h6 w⟩⟩
theorem isIn_c {σ : ST} {b : Nat} {K : Int32 → ST → Prop} (hb : b < 6) (hK : K 1 σ) : wp_X9_isIn σ (nI b) 0 5 K := isIn_t (nI_pos (by omega)) (nI_nlt (b := b) (a := 5) (by omega) (by decide)) hK
theorem z10 : ¬ (1 : Int32) = 0 := by decide
theorem ref0 {σ : ST} {K : Int32 → ST → Prop} (hK : K 0 (upI σ 1000 0 0)) : wp_X9_refused σ 0 K := fun s1 e1 => by
  rw [e1]
  exact ⟨fun _ => hK, fun w => absurd (by decide) w⟩
theorem ref1 {σ : ST} {e : Int32} {K : Int32 → ST → Prop} (he : ¬ e ≤ 0) (hK : K 1 (upI σ 1000 0 e)) : wp_X9_refused σ e K := fun s1 e1 => by
  rw [e1]
  exact ⟨fun w => absurd w he, fun _ => hK⟩
/-- the law's tail where an answer is given, and where a call is refused -/
theorem tl_ok {o : Nat → Int64} {v th : Int32} {P : Prop} (ht : th = 0) (hP : P) : ((th = (0 : Int32) → (((¬ (0 : Int32) = 0 → P) ∧ ((0 : Int32) = 0 → ((((lg_cmp ((vp_updL o (0 : Int32).toNatClampNeg v.toInt64) (0 : Int32).toNatClampNeg) v.toInt64) = 0 → P) ∧ (¬ ((lg_cmp ((vp_updL o (0 : Int32).toNatClampNeg v.toInt64) (0 : Int32).toNatClampNeg) v.toInt64) = 0) → (False)))))))) ∧ (¬ (th = (0 : Int32)) → (False))) := ⟨fun _ => ⟨fun w => absurd rfl w, fun _ => ans_ok hP⟩, fun w => w ht⟩
theorem tl_ref {X P : Prop} {e th : Int32} (he : ¬ e = 0) (ht : th = e) (hP : P) : ((th = e → ((¬ e = 0 → P) ∧ (e = 0 → X))) ∧ (¬ (th = e) → False)) := ⟨fun _ => ⟨fun _ => hP, fun w => absurd w he⟩, fun w => w ht⟩
theorem j113 {b : Nat} {a2 a3 : Int32} {K : Int32 → ST → Prop} {J71 : ST → Int32 → Int32 → Prop} {z : ST} (hb : b < 6) (hK : K (-1) (upI z 1029 (10 * b + 2) (sI z 1029 (10 * b + 2) + 1))) : wp_X9_come_J113 (nI b) a2 a3 K J71 z := by
  have e : (10 : Int32) * nI b + 2 = nI (10 * b + 2) := by rw [show (10 : Int32) = nI 10 from rfl, show (2 : Int32) = nI 2 from rfl, pk_mul, nI_add]
  have i : vp_in (nI (10 * b + 2)) 60 := vp_in_nI (by omega) (by decide)
  unfold wp_X9_come_J113
  rw [e, nI_clamp (by omega)]
  exact ⟨i, i, fun s e => by rw [e]; exact hK⟩
theorem j167 {b : Nat} {a2 a3 : Int32} {K : Int32 → ST → Prop} {J71 : ST → Int32 → Int32 → Prop} {G : ST → Prop} {z : ST} (hb : b < 6) (hK : K (-1) (upI z 1029 (10 * b + 3) (sI z 1029 (10 * b + 3) + 1))) : wp_X9_come_J167 (nI b) a2 a3 K J71 G z := by
  have e : (10 : Int32) * nI b + 3 = nI (10 * b + 3) := by rw [show (10 : Int32) = nI 10 from rfl, show (3 : Int32) = nI 3 from rfl, pk_mul, nI_add]
  have i : vp_in (nI (10 * b + 3)) 60 := vp_in_nI (by omega) (by decide)
  unfold wp_X9_come_J167
  rw [e, nI_clamp (by omega)]
  exact ⟨i, i, fun s e => by rw [e]; exact hK⟩
/-- the packet p under way: what it holds -/
def PKT (n now b bp p : Nat) (a3 mk v : Int32) (σ : ST) : Prop := okP n σ b p ∧ sR σ 87 p = none ∧ sI σ 80 p = v ∧ sI σ 82 p = nI bp ∧ sI σ 83 p = nI now ∧ sI σ 84 p = a3 ∧ sI σ 85 p = mk
theorem PKT.congr {n now b bp p : Nat} {a3 mk v : Int32} {σ σ' : ST} (h : PKT n now b bp p a3 mk v σ) (h1 : ∀ f, f = 81 ∨ f = 87 → sR σ' f p = sR σ f p) (h2 : ∀ f, 80 ≤ f ∧ f ≤ 85 → sI σ' f p = sI σ f p) : PKT n now b bp p a3 mk v σ' := by
  obtain ⟨g1, g2, g3, g4, g5, g6, g7⟩ := h
  exact ⟨g1.congr (h1 81 (by omega)) (fun f hf => h2 f (by omega)), by rw [h1 87 (by omega)]; exact g2, by rw [h2 80 (by omega)]; exact g3, by rw [h2 82 (by omega)]; exact g4, by rw [h2 83 (by omega)]; exact g5, by rw [h2 84 (by omega)]; exact g6, by rw [h2 85 (by omega)]; exact g7⟩
/-- a packet comes, both sides -/
theorem come_ok {n now b bp : Nat} {a3 : Int32} {qs : Nat → List Nat} {rd : List Nat} {σ τ : ST} (h : Sim n now qs rd none σ τ) (hn : n < 512) (h3 : isB a3) (hb : b < 6) (hbp1 : 1 ≤ bp) (hbp : bp ≤ 1500) :
    ∃ (v : Int32) (σ' τ' : ST) (qs' : Nat → List Nat) (rd' : List Nat), (∀ (K : Int32 → Nat → ST → Prop) (KX : String → ST → Prop), K v (n + 1) σ' → wp_X8_come n σ (nI b) (nI bp) a3 K KX) ∧ (∀ K : Int32 → ST → Prop, K v τ' → wp_X9_come τ (nI b) (nI bp) a3 K) ∧ Sim (n + 1) now qs' rd' none σ' τ' ∧ sI τ' 1000 0 = 0 := by
  have hin : vp_in (nI b) 6 := vp_in_nI hb (by decide)
  have hc : (nI b).toNatClampNeg = b := nI_clamp (by omega)
  obtain ⟨s3, es3⟩ : ∃ z, z = upI τ 1000 0 0 := ⟨_, rfl⟩
  have h0 := thr_sim 0 h
  rw [← es3] at h0
  obtain ⟨σa, hfr, ka, hSa, hDa, p1, p2, p3, p4, p5, p6, p7, hnl, pa⟩ := arr_ok h0 hb hbp1 hbp h3 hn
  obtain ⟨hSb, hDb⟩ := num_sim hSa
  obtain ⟨σb, eσb⟩ : ∃ z, z = upI σa 133 0 (sI σa 133 0 + 1) := ⟨_, rfl⟩
  obtain ⟨τb, eτb⟩ : ∃ z, z = upI s3 1002 0 (sI s3 1002 0 + 1) := ⟨_, rfl⟩
  rw [← eσb, ← eτb] at hSb hDb
  obtain ⟨hSc, hDc⟩ := cnt_sim (f := 40) (k := 0) hSb hb (Or.inl ⟨rfl, rfl⟩)
  obtain ⟨σ1, eσ1⟩ : ∃ z, z = upI σb 40 b (sI σb 40 b + 1) := ⟨_, rfl⟩
  obtain ⟨τ1, eτ1⟩ : ∃ z, z = upI τb 1029 (10 * b + 0) (sI τb 1029 (10 * b + 0) + 1) := ⟨_, rfl⟩
  rw [← eσ1, ← eτ1] at hSc hDc
  have hD1 := hDc _ (hDb _ hDa)
  obtain ⟨v, ev⟩ : ∃ v, v = sI s3 1002 0 := ⟨_, rfl⟩
  have hv : sI σ 133 0 = v := by rw [ev]; exact h0.2.2.1.2.2.2.2.1
  have hP1 : PKT (n + 1) now b bp n a3 0 v σ1 := by
    refine PKT.congr (σ := σa) ⟨p1, p2, by rw [p3]; exact hv, p4, p5, p6, p7⟩ (fun f _ => by rw [eσ1, eσb]; rfl) (fun f hf => ?_)
    rw [eσ1, sI_upI, if_neg (by omega), eσb, sI_upI, if_neg (by omega)]
  have h1000 : sI τ1 1000 0 = 0 := by rw [eτ1, sI_upI, if_neg (by omega), eτb, sI_upI, if_neg (by omega), es3, sI_s]
  -- the two runs up to the verdict
  have classK : ∀ (K : Int32 → Nat → ST → Prop) (KX : String → ST → Prop), ((100 ≤ (sI σ1 134 0) → (∀ s13, s13 = upI σ1 43 b ((sI σ1 43 b) + 1) → K (-1) (n + 1) s13)) ∧ (¬ (100 ≤ (sI σ1 134 0)) → (((((sI σ1 135 0) + nI bp) ≤ (sI σ1 136 0) → (wp_X2_letsIn (n + 1) σ1 b n (sI σ1 132 0) (fun r15 s14 => ((¬ r15 = 0 → (wp_X8_putIn (n + 1) s14 n (fun s16 => K (sI s16 80 n) (n + 1) s16))) ∧ (r15 = 0 → (∀ s17, s17 = upI s14 44 b ((sI s14 44 b) + 1) → K (-1) (n + 1) s17)))))) ∧ (¬ (((sI σ1 135 0) + nI bp) ≤ (sI σ1 136 0)) → (∀ s18, s18 = upI σ1 43 b ((sI σ1 43 b) + 1) → K (-1) (n + 1) s18)))))) → wp_X8_come n σ (nI b) (nI bp) a3 K KX := by
    intro K KX hK
    unfold wp_X8_come
    refine fl_ok hb ⟨fun w => absurd w (nI_nlt (b := 1) hbp1 (by omega)), fun _ => ⟨fun _ => ⟨hfr, fun s4 e4 pk epk n' en' => ?_⟩, fun w => absurd (nI_le (b := 1500) hbp (by decide)) w⟩⟩
    have epk2 := epk.symm
    subst epk2
    subst en'
    subst e4
    refine ⟨b, rfl, Nat.lt_succ_self n, ka _ (fun s10 e10 => ⟨hb, fun s12 e12 => ?_⟩)⟩
    have : s12 = σ1 := by rw [e12, e10, ← eσb, ← eσ1]
    rw [this]
    exact hK
  obtain ⟨W, eW⟩ : ∃ W, W = tot fun j => (qs j).length := ⟨_, rfl⟩
  obtain ⟨B, eB⟩ : ∃ B, B = tot fun j => byt σ1 (qs j) := ⟨_, rfl⟩
  have modK : ∀ K : Int32 → ST → Prop, (∀ J71, cmF (nI b) (nI bp) a3 s3 K J71 (nI (bp + B)) (nI W) τ1) → wp_X9_come τ (nI b) (nI bp) a3 K := by
    intro K hK
    unfold wp_X9_come
    refine isIn_c hb ⟨fun w => absurd w z10, fun _ => isIn_t (nI_nlt (b := 1) hbp1 (by omega)) (nI_nlt (b := bp) (a := 1500) hbp (by decide)) ⟨fun w => absurd w z10, fun _ => ?_⟩⟩
    unfold wp_X9_come_J26
    refine ref0 ⟨fun _ s5 e5 => ?_, fun w => absurd rfl w⟩
    have e0 : (10 : Int32) * nI b + 0 = nI (10 * b + 0) := by rw [show (10 : Int32) = nI 10 from rfl, show (0 : Int32) = nI 0 from rfl, pk_mul, nI_add]
    have i0 : vp_in (nI (10 * b + 0)) 60 := vp_in_nI (by omega) (by decide)
    rw [e0, nI_clamp (by omega), ← es3]
    rw [← es3, ← eτb] at e5
    refine ⟨i0, i0, fun s8 e8 => ⟨7, ?_⟩⟩
    rw [e5, ← eτ1] at e8
    rw [e8]
    rw [eB, eW] at hK
    exact come_loop (acc0 := bp) hSc.1 hSc.2.1 hK 6 0 rfl
  obtain ⟨hQ, hW, hS, hC, hKK, hF, hB, hR, hM, hRQ, hL, hRF, hCV, hDV, hMV, _⟩ := id hSc
  have e134 : sI σ1 134 0 = nI W := by rw [eW]; exact hW.1
  have e135 : sI σ1 135 0 + nI bp = nI (bp + B) := by rw [hW.2.2, ← eB, nI_add, Nat.add_comm]
  have e136 : sI σ1 136 0 = sI τ1 1004 0 := hS.2.2.2.2.2.1
  have e132 : sI σ1 132 0 = nI now := hS.1
  have hW100 : W ≤ 100 := by rw [eW]; exact hW.2.1
  rw [e134, e135, e136, e132] at classK
  rw [← eW] at hD1
  have hlost : (100 ≤ W ∨ ¬ (nI (bp + B) ≤ sI τ1 1004 0)) → ∃ (v : Int32) (σ' τ' : ST) (qs' : Nat → List Nat) (rd' : List Nat), (∀ (K : Int32 → Nat → ST → Prop) (KX : String → ST → Prop), K v (n + 1) σ' → wp_X8_come n σ (nI b) (nI bp) a3 K KX) ∧ (∀ K : Int32 → ST → Prop, K v τ' → wp_X9_come τ (nI b) (nI bp) a3 K) ∧ Sim (n + 1) now qs' rd' none σ' τ' ∧ sI τ' 1000 0 = 0 := by
    intro hl
    have hx := cnt_sim (f := 43) (k := 2) hSc hb (Or.inr (Or.inl ⟨rfl, rfl⟩))
    refine ⟨-1, _, _, qs, rd, fun K KX hK => classK K KX ?_, fun K hK => modK K (fun J71 => ?_), drop_sim hx.1, by rw [sI_upI, if_neg (by omega)]; exact h1000⟩
    · refine ⟨fun _ s13 e13 => by rw [e13]; exact hK, fun w => ⟨fun w2 => ?_, fun _ s18 e18 => by rw [e18]; exact hK⟩⟩
      rcases hl with hl | hl
      · exact absurd (nI_le (a := 100) hl (by omega)) w
      · exact absurd w2 hl
    · refine ⟨fun _ => j113 hb hK, fun w => ⟨fun w2 => ?_, fun _ => j113 hb hK⟩⟩
      rcases hl with hl | hl
      · exact absurd (by rw [show W = 100 by omega]; rfl) w
      · exact absurd w2 hl
  by_cases hfull : 100 ≤ W
  · exact hlost (Or.inl hfull)
  by_cases hfit0 : ¬ (nI (bp + B) ≤ sI τ1 1004 0)
  · exact hlost (Or.inr hfit0)
  have hfit : nI (bp + B) ≤ sI τ1 1004 0 := Classical.not_not.mp hfit0
  have hnf : ¬ (100 : Int32) ≤ nI W := nI_ge (b := 100) (by omega) (by decide)
  have hnf2 : ¬ nI W = 100 := fun w => hfull (by
    have := (nI_eq (a := W) (b := 100) (by omega) (by decide)).mp w
    omega)
  -- a packet that stays
  have acc : ∀ (σ2 τ2 : ST) (y0 mk : Int32), Sim (n + 1) now qs rd (some n) σ2 τ2 → DVs (n - W) σ2 τ2 → PKT (n + 1) now b bp n a3 mk v σ2 → ((y0 = 2 ∧ mk = 1) ∨ (¬ y0 = 2 ∧ mk = 0)) → sI τ2 1000 0 = 0 →
      ∃ (σ' τ' : ST) (qs' : Nat → List Nat) (rd' : List Nat), (∀ (K : Int32 → Nat → ST → Prop), K v (n + 1) σ' → wp_X8_putIn (n + 1) σ2 n (fun s16 => K (sI s16 80 n) (n + 1) s16)) ∧ (∀ (K : Int32 → ST → Prop) (J71 : ST → Int32 → Int32 → Prop) (G113 G167 : ST → Prop), K v τ' → wp_X9_come_J205 (nI b) (nI bp) a3 y0 s3 K J71 G113 G167 τ2) ∧ Sim (n + 1) now qs' rd' none σ' τ' ∧ sI τ' 1000 0 = 0 := by
    intro σ2 τ2 y0 mk g1 g2 ⟨q1, q2, q3, q4, q5, q6, q7⟩ g4 g5
    obtain ⟨σ', τ', qs', rd', w1, w2, w3, w4, w5⟩ := put_ok (s3 := s3) (y0 := y0) g1 hb (by rw [← eW]; omega) (by rw [← eW, show n + 1 - (W + 1) = n - W by omega]; exact g2) q1 hnl q2 (by rw [q3, ev]) q4 hbp q5 q6 (by rw [q7]; exact g4)
    refine ⟨σ', τ', qs', rd', fun K hK => w1 _ ?_, fun K J71 G113 G167 hK => w2 K J71 G113 G167 (by rw [← ev]; exact hK), w3, w5.trans g5⟩
    show K (sI σ' 80 n) (n + 1) σ'
    rw [w4, ← ev]
    exact hK
  have hkk : sI σ1 36 b = sI τ1 1006 b := (hKK b hb).2.1
  by_cases hk : sI σ1 36 b = 1
  · have hk2 : sI τ1 1006 b = 1 := by rw [← hkk]; exact hk
    have hlb : (qs b).length ≤ 100 := hW.len b hb
    have h98 : sI σ1 98 b = nI (qs b).length := (hQ b hb).2.2.2.2.2.1
    have h1023 : sI τ1 1023 b = nI (qs b).length := (hQ b hb).2.2.2.2.2.2.2.1
    obtain ⟨σr, τr, kr1, kr2, Dr, frr, cvr⟩ := reck_ok (n := n + 1) hb (hMV b hb) hS.2.1 hS.2.2.1 hlb h1023
    obtain ⟨r, σv, τv, kv1, kv2, hr, Dv, Cv, frv⟩ := verd_ok (n := n + 1) hb Dr (cvr _ hCV) (by decide)
    have fr := frr.trans frv
    obtain ⟨hS2, hD2⟩ := mean_sim hSc fr Dv Cv
    have hDv := hD2 _ hD1
    have hPv : PKT (n + 1) now b bp n a3 0 v σv := hP1.congr (fun f _ => fr.1 f n) (fun f hf => fr.2.1 f n (by omega) (by omega))
    have hv1000 : sI τv 1000 0 = 0 := (fr.2.2.2.1 1000 0 (by omega) (by omega)).trans h1000
    obtain ⟨q1, q2, q3, q4, q5, q6, q7⟩ := id hPv
    obtain ⟨hSm0, hDm0⟩ := mark_sim (v := 1) hS2 hnl
    obtain ⟨hSm, hDm⟩ := cnt_sim (f := 46) (k := 5) hSm0 hb (Or.inr (Or.inr (Or.inr ⟨rfl, rfl⟩)))
    obtain ⟨σm, eσm⟩ : ∃ z, z = upI (upI σv 85 n 1) 46 b (sI (upI σv 85 n 1) 46 b + 1) := ⟨_, rfl⟩
    obtain ⟨τm, eτm⟩ : ∃ z, z = upI τv 1029 (10 * b + 5) (sI τv 1029 (10 * b + 5) + 1) := ⟨_, rfl⟩
    rw [← eσm, ← eτm] at hSm hDm
    have i85 : sI σm 85 n = 1 := by rw [eσm, sI_upI, if_neg (by omega), sI_s]
    have im : ∀ f, 80 ≤ f ∧ f ≤ 84 → sI σm f n = sI σv f n := fun f hf => by rw [eσm, sI_upI, if_neg (by omega), sI_upI, if_neg (by omega)]
    have hPm : PKT (n + 1) now b bp n a3 1 v σm := by
      refine ⟨⟨q1.1, ?_, ⟨bp, hbp1, hbp, by rw [im 82 (by omega)]; exact q4⟩, by rw [im 84 (by omega), q6]; exact h3, by rw [i85]; exact isB1⟩, ?_, by rw [im 80 (by omega)]; exact q3, by rw [im 82 (by omega)]; exact q4, by rw [im 83 (by omega)]; exact q5, by rw [im 84 (by omega)]; exact q6, i85⟩
      · rw [eσm]; exact q1.2.1
      · rw [eσm]; exact q2
    have hm1000 : sI τm 1000 0 = 0 := by rw [eτm, sI_upI, if_neg (by omega)]; exact hv1000
    -- the runs by the verdict's three answers
    have classV : ∀ (K : Int32 → Nat → ST → Prop) (KX : String → ST → Prop), (r = 0 → wp_X8_putIn (n + 1) σv n (fun s16 => K (sI s16 80 n) (n + 1) s16)) → (r = 2 → ¬ a3 = 0 → wp_X8_putIn (n + 1) σm n (fun s16 => K (sI s16 80 n) (n + 1) s16)) → ((r = 1 ∨ (r = 2 ∧ a3 = 0)) → K (-1) (n + 1) (upI σv 44 b (sI σv 44 b + 1))) → wp_X8_come n σ (nI b) (nI bp) a3 K KX := by
      intro K KX g0 g2 g1
      refine classK K KX ⟨fun w => absurd w hnf, fun _ => ⟨fun _ => ?_, fun w => absurd hfit w⟩⟩
      unfold wp_X2_letsIn
      rw [h98]
      refine ⟨hb, fun _ => ⟨hb, hb, kr1 _ ?_⟩, fun w => absurd hk w⟩
      refine kv1 _ _ _ (fun e => ?_) (fun e => ?_) (fun e => ?_)
      · exact ⟨fun _ => g0 e, fun w => absurd w z10⟩
      · unfold wp_X2_takesMark
        rw [q6, q7]
        by_cases hz : a3 = 0
        · exact ⟨Nat.lt_succ_self n, fun _ => ⟨h3, fun _ => ⟨fun w => absurd rfl w, fun _ s17 e17 => by rw [e17]; exact g1 (Or.inr ⟨e, hz⟩)⟩, fun w => absurd hz w⟩, fun w => absurd hz w⟩
        · refine ⟨Nat.lt_succ_self n, fun w => absurd w hz, fun _ => ⟨fun w => absurd rfl w, fun _ s4 e4 => ⟨hb, fun s6 e6 => ?_⟩⟩⟩
          have es : s6 = σm := by rw [e6, e4, eσm]
          rw [es, im 84 (by omega), q6]
          exact ⟨h3, fun w => absurd w hz, fun _ => ⟨fun _ => g2 e hz, fun w => absurd w z10⟩⟩
      · exact ⟨fun w => absurd rfl w, fun _ s17 e17 => by rw [e17]; exact g1 (Or.inl e)⟩
    have modV : ∀ K : Int32 → ST → Prop, (∀ J71, wp_X9_come_J149 (nI b) (nI bp) a3 s3 K J71 (wp_X9_come_J113 (nI b) (nI bp) a3 K J71) τv r) → wp_X9_come τ (nI b) (nI bp) a3 K := by
      intro K g
      exact modK K (fun J71 => ⟨fun w => absurd w hnf2, fun _ => ⟨fun _ => ⟨hin, fun w => absurd (by rw [hc]; exact hk2) w, fun _ => kr2 _ (kv2 _ (g J71))⟩, fun w => absurd hfit w⟩⟩)
    have n20 : ¬ (2 : Int32) = 0 := by decide
    have n21 : ¬ (2 : Int32) = 1 := by decide
    have n02 : ¬ (0 : Int32) = 2 := by decide
    have n01 : ¬ (0 : Int32) = 1 := by decide
    have n12 : ¬ (1 : Int32) = 2 := by decide
    have hlostM : (r = 1 ∨ (r = 2 ∧ a3 = 0)) → ∃ (v : Int32) (σ' τ' : ST) (qs' : Nat → List Nat) (rd' : List Nat), (∀ (K : Int32 → Nat → ST → Prop) (KX : String → ST → Prop), K v (n + 1) σ' → wp_X8_come n σ (nI b) (nI bp) a3 K KX) ∧ (∀ K : Int32 → ST → Prop, K v τ' → wp_X9_come τ (nI b) (nI bp) a3 K) ∧ Sim (n + 1) now qs' rd' none σ' τ' ∧ sI τ' 1000 0 = 0 := by
      intro hl
      have hx := cnt_sim (f := 44) (k := 3) hS2 hb (Or.inr (Or.inr (Or.inl ⟨rfl, rfl⟩)))
      refine ⟨-1, _, _, qs, rd, fun K KX hK => classV K KX (fun e => ?_) (fun e hz => ?_) (fun _ => hK), fun K hK => modV K (fun J71 => ?_), drop_sim hx.1, by rw [sI_upI, if_neg (by omega)]; exact hv1000⟩
      · rcases hl with hl | ⟨hl, _⟩
        · exact absurd (e.symm.trans hl) n01
        · exact absurd (e.symm.trans hl) n02
      · rcases hl with hl | ⟨_, hl⟩
        · exact absurd (hl.symm.trans e) n12
        · exact absurd hl hz
      · unfold wp_X9_come_J149
        rcases hl with hl | ⟨hl, hz⟩
        · exact ⟨fun _ => j167 hb hK, fun w => absurd hl w⟩
        · exact ⟨fun w => absurd (hl.symm.trans w) n21, fun _ => ⟨fun w => absurd hl w, fun _ => ⟨fun w => absurd hz w, fun _ => j167 hb hK⟩⟩⟩
    rcases hr with hr | hr | hr
    · obtain ⟨σ', τ', qs', rd', w1, w2, w3, w4⟩ := acc σv τv 0 0 hS2 hDv hPv (Or.inr ⟨n02, rfl⟩) hv1000
      refine ⟨v, σ', τ', qs', rd', fun K KX hK => classV K KX (fun _ => w1 K hK) (fun e => absurd (hr.symm.trans e) n02) (fun e => ?_), fun K hK => modV K (fun J71 => ?_), w3, w4⟩
      · rcases e with e | ⟨e, _⟩
        · exact absurd (hr.symm.trans e) n01
        · exact absurd (hr.symm.trans e) n02
      · rw [hr]
        unfold wp_X9_come_J149 wp_X9_come_J184
        exact ⟨fun w => absurd w n01, fun _ => ⟨fun _ => ⟨fun _ => w2 K J71 _ _ hK, fun w => absurd w n02⟩, fun w => absurd w n02⟩⟩
    · exact hlostM (Or.inl hr)
    · by_cases hz : a3 = 0
      · exact hlostM (Or.inr ⟨hr, hz⟩)
      · obtain ⟨σ', τ', qs', rd', w1, w2, w3, w4⟩ := acc σm τm 2 1 hSm (hDm _ (hDm0 _ hDv)) hPm (Or.inl ⟨rfl, rfl⟩) hm1000
        refine ⟨v, σ', τ', qs', rd', fun K KX hK => classV K KX (fun e => absurd (hr.symm.trans e) n20) (fun _ _ => w1 K hK) (fun e => ?_), fun K hK => modV K (fun J71 => ?_), w3, w4⟩
        · rcases e with e | ⟨_, e⟩
          · exact absurd (hr.symm.trans e) n21
          · exact absurd e hz
        · rw [hr]
          have e5 : (10 : Int32) * nI b + 5 = nI (10 * b + 5) := by rw [show (10 : Int32) = nI 10 from rfl, show (5 : Int32) = nI 5 from rfl, pk_mul, nI_add]
          have i5 : vp_in (nI (10 * b + 5)) 60 := vp_in_nI (by omega) (by decide)
          unfold wp_X9_come_J149 wp_X9_come_J184
          rw [e5, nI_clamp (by omega)]
          refine ⟨fun w => absurd w n21, fun _ => ⟨fun w => absurd rfl w, fun _ => ⟨fun _ => ⟨fun w => absurd rfl w, fun _ => ⟨i5, i5, fun s43 e43 => ?_⟩⟩, fun w => absurd w hz⟩⟩⟩
          rw [e43, ← eτm]
          exact w2 K J71 _ _ hK
  · have hk2 : ¬ sI τ1 1006 b = 1 := by rw [← hkk]; exact hk
    obtain ⟨σ', τ', qs', rd', w1, w2, w3, w4⟩ := acc σ1 τ1 0 0 hSc hD1 hP1 (Or.inr ⟨by decide, rfl⟩) h1000
    refine ⟨v, σ', τ', qs', rd', fun K KX hK => classK K KX ⟨fun w => absurd w hnf, fun _ => ⟨fun _ => ⟨hb, fun w => absurd w hk, fun _ => ⟨fun _ => w1 K hK, fun w => absurd w z10⟩⟩, fun w => absurd hfit w⟩⟩, fun K hK => modK K (fun J71 => ?_), w3, w4⟩
    refine ⟨fun w => absurd w hnf2, fun _ => ⟨fun _ => ⟨hin, fun _ => ?_, fun w => absurd (by rw [hc] at w; exact w) hk2⟩, fun w => absurd hfit w⟩⟩
    unfold wp_X9_come_J149 wp_X9_come_J184
    exact ⟨fun w => absurd w (by decide), fun _ => ⟨fun _ => ⟨fun _ => w2 K J71 _ _ hK, fun w => absurd w (by decide)⟩, fun w => absurd w (by decide)⟩⟩
theorem come_bad {n : Nat} {a1 a2 a3 : Int32} {σ τ : ST} (hv : ¬ ((¬ a1 < 0 ∧ ¬ 6 ≤ a1) ∧ (¬ a2 < 1 ∧ a2 ≤ 1500))) : (∀ (K : Int32 → Nat → ST → Prop) (KX : String → ST → Prop), KX "java/lang/IllegalArgumentException" σ → wp_X8_come n σ a1 a2 a3 K KX) ∧ (∀ K : Int32 → ST → Prop, K 0 (upI τ 1000 0 1) → wp_X9_come τ a1 a2 a3 K) := by
  by_cases h1 : a1 < 0 ∨ 6 ≤ a1
  · refine ⟨fun K KX hK => fl_bad h1 hK, fun K hK => ?_⟩
    have h2 : a1 < 0 ∨ 5 < a1 := by
      rcases h1 with h1 | h1
      · exact Or.inl h1
      · exact Or.inr ((le_lt 5 (by decide)).mp h1)
    unfold wp_X9_come
    refine isIn_f h2 ⟨fun _ => ?_, fun w => absurd rfl w⟩
    unfold wp_X9_come_J25 wp_X9_come_J26
    exact ref1 (by decide) ⟨fun w => absurd w z10, fun _ => hK⟩
  · obtain ⟨b, hb, rfl⟩ := cls_of (fun w => h1 (Or.inl w)) (fun w => h1 (Or.inr w))
    have h2 : a2 < 1 ∨ 1500 < a2 := by
      by_cases w : a2 < 1
      · exact Or.inl w
      · exact Or.inr (Int32.not_le.mp (fun w2 => hv ⟨⟨fun w => h1 (Or.inl w), fun w => h1 (Or.inr w)⟩, w, w2⟩))
    refine ⟨fun K KX hK => fl_ok hb ?_, fun K hK => ?_⟩
    · by_cases w : a2 < 1
      · exact ⟨fun _ => hK, fun w2 => absurd w w2⟩
      · have w3 : 1500 < a2 := by
          rcases h2 with h2 | h2
          · exact absurd h2 w
          · exact h2
        exact ⟨fun w2 => absurd w2 w, fun _ => ⟨fun w2 => absurd w2 (Int32.not_le.mpr w3), fun _ => hK⟩⟩
    · unfold wp_X9_come
      refine isIn_c hb ⟨fun w => absurd w z10, fun _ => isIn_f h2 ⟨fun _ => ?_, fun w => absurd rfl w⟩⟩
      unfold wp_X9_come_J25 wp_X9_come_J26
      exact ref1 (by decide) ⟨fun w => absurd w z10, fun _ => hK⟩
/-- come, both sides -/
theorem come_all {n now : Nat} {a1 a2 a3 : Int32} {qs : Nat → List Nat} {rd : List Nat} {σ τ : ST} (h : Sim n now qs rd none σ τ) (hn : n < 512) (h3 : isB a3) : ∃ (th v v2 : Int32) (n' : Nat) (σ' τ' : ST) (qs' : Nat → List Nat) (rd' : List Nat), (∀ (o : Nat → Int64) (d : Nat → UInt64) (K : Int32 → (Nat → Int64) → (Nat → UInt64) → Nat → ST → Prop), (th = 0 → K 0 (vp_updL o (0 : Int32).toNatClampNeg v.toInt64) d n' σ') → (th = 1 → K 1 o d n' σ') → wp_L_come n o d σ a1 a2 a3 K) ∧ (∀ K : Int32 → ST → Prop, (th = 0 → K v τ') → (th = 1 → K v2 τ') → wp_X9_come τ a1 a2 a3 K) ∧ Sim n' now qs' rd' none σ' τ' ∧ sI τ' 1000 0 = th ∧ (th = 0 ∨ th = 1) ∧ n' ≤ n + 1 := by
  by_cases hv : (¬ a1 < 0 ∧ ¬ 6 ≤ a1) ∧ (¬ a2 < 1 ∧ a2 ≤ 1500)
  · obtain ⟨⟨g1, g2⟩, g3, g4⟩ := hv
    obtain ⟨b, hb, rfl⟩ := cls_of g1 g2
    obtain ⟨bp, h1, h2, rfl⟩ := rng_of 1 1500 (by decide) (by decide) g3 g4
    obtain ⟨v, σ', τ', qs', rd', w1, w2, w3, w4⟩ := come_ok h hn h3 hb h1 h2
    exact ⟨0, v, 0, n + 1, σ', τ', qs', rd', fun o d K k0 _ => w1 _ _ (k0 rfl), fun K k0 _ => w2 K (k0 rfl), w3, w4, Or.inl rfl, Nat.le_refl _⟩
  · obtain ⟨w1, w2⟩ := come_bad (n := n) (a3 := a3) (σ := σ) (τ := τ) hv
    exact ⟨1, 0, 0, n, σ, upI τ 1000 0 1, qs, rd, fun o d K _ k1 => w1 _ _ ⟨rfl, k1 rfl⟩, fun K _ k1 => w2 K (k1 rfl), thr_sim 1 h, sI_s _ _ _ _, Or.inr rfl, Nat.le_succ n⟩
theorem case5_ok {xs : Nat → Int32} {L n now : Nat} {i : Int32} {o : Nat → Int64} {d : Nat → UInt64} {qs : Nat → List Nat} {rd : List Nat} {σ τ : ST} (h : Sim n now qs rd none σ τ) (h1 : vp_in (i + 1) L) (h2 : vp_in (i + 2) L) (h3 : vp_in (i + 3) L) (hn : n < 512) (Kn : Nat → (Nat → Int64) → (Nat → UInt64) → ST → ST → Prop) (hK : ∀ n' o' d' qs' rd' σ' τ', n' ≤ n + 1 → Sim n' now qs' rd' none σ' τ' → Kn n' o' d' σ' τ') : wp_case5 xs L i n o d σ τ Kn := by
  unfold wp_case5
  refine ⟨h1, h2, h3, fun hm => ?_, fun hm => ?_⟩
  · obtain ⟨th, v, v2, n', σ', τ', qs', rd', w1, w2, w3, w4, w5, w6⟩ := come_all (a1 := xs (i + 1).toNatClampNeg) (a2 := xs (i + 2).toNatClampNeg) h hn isB0
    refine w1 _ _ _ (fun e => ?_) (fun e => ?_)
    · refine ⟨h1, h2, h3, fun _ => w2 _ (fun _ => ?_) (fun e2 => absurd (e.symm.trans e2) (by decide)), fun w => absurd hm w⟩
      exact tl_ok (w4.trans e) (hK _ _ _ _ _ _ _ w6 w3)
    · refine ⟨h1, h2, h3, fun _ => w2 _ (fun e2 => absurd (e.symm.trans e2) (by decide)) (fun _ => ?_), fun w => absurd hm w⟩
      exact tl_ref z10 (w4.trans e) (hK _ _ _ _ _ _ _ w6 w3)
  · obtain ⟨th, v, v2, n', σ', τ', qs', rd', w1, w2, w3, w4, w5, w6⟩ := come_all (a1 := xs (i + 1).toNatClampNeg) (a2 := xs (i + 2).toNatClampNeg) h hn isB1
    refine w1 _ _ _ (fun e => ?_) (fun e => ?_)
    · refine ⟨h1, h2, h3, fun w => absurd w hm, fun _ => w2 _ (fun _ => ?_) (fun e2 => absurd (e.symm.trans e2) (by decide))⟩
      exact tl_ok (w4.trans e) (hK _ _ _ _ _ _ _ w6 w3)
    · refine ⟨h1, h2, h3, fun w => absurd w hm, fun _ => w2 _ (fun e2 => absurd (e.symm.trans e2) (by decide)) (fun _ => ?_)⟩
      exact tl_ref z10 (w4.trans e) (hK _ _ _ _ _ _ _ w6 w3)
