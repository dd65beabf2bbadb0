theorem chain_mem {R : Nat → Option Nat} : ∀ {l : List Nat} {x y : Nat}, chain R l → x ∈ l → R x = some y → y ∈ l
  | [], _, _, _, h, _ => absurd h (by simp)
  | [p], x, y, c, h, e => by
    have hx : x = p := by simpa using h
    subst hx
    have c : R x = none := c
    rw [c] at e
    cases e
  | p :: q :: l, x, y, c, h, e => by
    rcases List.mem_cons.mp h with h | h
    · subst h
      rw [c.1] at e
      cases e
      simp
    · exact List.mem_cons_of_mem _ (chain_mem c.2 h e)
def psum (g : Nat → Nat) : Nat → Nat
  | 0 => 0
  | t + 1 => psum g t + g t
theorem psum6 (g : Nat → Nat) : psum g 6 = tot g := by
  unfold tot
  simp only [psum]
  omega
theorem byt_drop {σ : ST} {l : List Nat} {k p : Nat} (h : l[k]? = some p) : byt σ (l.drop k) = (sI σ 82 p).toNatClampNeg + byt σ (l.drop (k + 1)) := by
  unfold byt
  obtain ⟨hk, e⟩ := List.getElem?_eq_some_iff.mp h
  rw [List.drop_eq_getElem_cons hk, e]
  simp
/-- the model's sum of a queue's bytes -/
theorem bw_loop {σ z : ST} {j : Nat} {l : List Nat} (hj : j < 6) (hl : l.length ≤ 100) (hq : QM σ z j l) (hb : ∀ p ∈ l, ∃ b : Nat, 1 ≤ b ∧ b ≤ 1500 ∧ sI σ 82 p = nI b) (K : Int32 → ST → Prop) : ∀ (d x acc : Nat), x + d = l.length → K (nI (acc + byt σ (l.drop x))) z → wp_X9_bytesWaiting_L7 (nI j) K (d + 1) z (nI (100 * j + x)) (nI acc) := by
  have hin : vp_in (nI j) 6 := vp_in_nI hj (by decide)
  have hc : (nI j).toNatClampNeg = j := nI_clamp (by omega)
  have hm : (100 : Int32) * nI j + nI l.length = nI (100 * j + l.length) := by rw [show (100 : Int32) = nI 100 from rfl, pk_mul, nI_add]
  intro d
  induction d with
  | zero =>
    intro x acc hx hK
    have e : x = l.length := by omega
    subst e
    unfold wp_X9_bytesWaiting_L7
    rw [hc, hq.1, hm]
    refine ⟨hin, fun _ => ?_, fun w => absurd (nI_le (Nat.le_refl _) (by omega)) w⟩
    rw [List.drop_length] at hK
    exact hK
  | succ d ih =>
    intro x acc hx hK
    have hlt : x < l.length := by omega
    obtain ⟨p, hp, hm2⟩ : ∃ p, l[x]? = some p ∧ p ∈ l := ⟨l[x], by simp [hlt], by simp⟩
    obtain ⟨b, b1, b2, b3⟩ := hb p hm2
    have e25 : sI z 1025 (100 * j + x) = nI b := by rw [(hq.2 x p hp).2.1, b3]
    unfold wp_X9_bytesWaiting_L7
    rw [hc, hq.1, hm]
    refine ⟨hin, fun w => absurd w (nI_ge (by omega) (by omega)), fun _ => ⟨vp_in_nI (by omega) (by decide), ?_⟩⟩
    rw [nI_clamp (by omega), e25, nI_1, nI_add, Nat.add_assoc]
    refine ih (x + 1) (acc + b) (by omega) ?_
    rw [byt_drop hp, b3, nI_clamp (by omega), ← Nat.add_assoc] at hK
    exact hK
theorem bw_ok {σ z : ST} {j : Nat} {l : List Nat} (hj : j < 6) (hl : l.length ≤ 100) (hq : QM σ z j l) (hb : ∀ p ∈ l, ∃ b : Nat, 1 ≤ b ∧ b ≤ 1500 ∧ sI σ 82 p = nI b) (K : Int32 → ST → Prop) (hK : K (nI (byt σ l)) z) : wp_X9_bytesWaiting z (nI j) K := by
  unfold wp_X9_bytesWaiting
  have hm : (100 : Int32) * nI j = nI (100 * j + 0) := by rw [show (100 : Int32) = nI 100 from rfl, pk_mul, Nat.add_zero]
  rw [hm]
  refine ⟨l.length + 1, bw_loop hj hl hq hb K l.length 0 0 (by omega) ?_⟩
  rw [Nat.zero_add]
  exact hK
theorem SQ1.bytes {n : Nat} {σ τ : ST} {j : Nat} {l : List Nat} (h : SQ1 n σ τ j l) : ∀ p ∈ l, ∃ b : Nat, 1 ≤ b ∧ b ≤ 1500 ∧ sI σ 82 p = nI b := fun p hp => (h.2.2.2.2.1 p hp).2.2.1
theorem wait_loop {z : ST} {g : Nat → Nat} (h : ∀ j, j < 6 → sI z 1023 j = nI (g j)) (K : Int32 → ST → Prop) (hK : K (nI (psum g 6)) z) : ∀ (d t : Nat), t + d = 6 → wp_X9_waiting_L4 K (d + 1) z (nI t) (nI (psum g t)) := by
  intro d
  induction d with
  | zero =>
    intro t ht
    have e : t = 6 := by omega
    subst e
    exact ⟨fun _ => hK, fun w => absurd (by decide) w⟩
  | succ d ih =>
    intro t ht
    refine ⟨fun w => absurd w (nI_ge (b := 6) (by omega) (by decide)), fun _ => ⟨vp_in_nI (by omega) (by decide), ?_⟩⟩
    rw [nI_clamp (by omega), h t (by omega), nI_1, nI_add]
    exact ih (t + 1) (by omega)
theorem wait_ok {z : ST} {g : Nat → Nat} (h : ∀ j, j < 6 → sI z 1023 j = nI (g j)) (K : Int32 → ST → Prop) (hK : K (nI (tot g)) z) : wp_X9_waiting z K := by
  unfold wp_X9_waiting
  exact ⟨7, wait_loop h K (by rw [psum6]; exact hK) 6 0 rfl⟩
/-- the model's coming, from its sums on -/
def cmF (a1 a2 a3 : Int32) (s3 : ST) (K : Int32 → ST → Prop) (J71 : ST → Int32 → Int32 → Prop) (acc w : Int32) (s9 : ST) : Prop :=
  ((w = 100 → (wp_X9_come_J113 a1 a2 a3 K J71 s9)) ∧ (¬ (w = 100) → (((acc ≤ (sI s9 1004 0) → (vp_in a1 6 ∧
((¬ (sI s9 1006 a1.toNatClampNeg) = 1 → (wp_X9_come_J149 a1 a2 a3 s3 K J71 (wp_X9_come_J113 a1 a2 a3 K J71) s9 0)) ∧ ((sI s9 1006 a1.toNatClampNeg) = 1 → (wp_X9_look s9 a1 (fun r45 s44 =>
wp_X9_come_J149 a1 a2 a3 s3 K J71 (wp_X9_come_J113 a1 a2 a3 K J71) s44 r45
)))))) ∧ (¬ (acc ≤ (sI s9 1004 0)) → (wp_X9_come_J113 a1 a2 a3 K J71 s9))))))
theorem come_loop {n acc0 : Nat} {σ z s3 : ST} {qs : Nat → List Nat} {a1 a2 a3 : Int32} {K : Int32 → ST → Prop} (hQ : SQ n σ z qs) (hW : SW σ qs) (hfin : ∀ J71, cmF a1 a2 a3 s3 K J71 (nI (acc0 + tot (fun j => byt σ (qs j)))) (nI (tot fun j => (qs j).length)) z) : ∀ (d t : Nat), t + d = 6 → wp_X9_come_L71 a1 a2 a3 s3 K (d + 1) z (nI t) (nI (acc0 + psum (fun j => byt σ (qs j)) t)) := by
  intro d
  induction d with
  | zero =>
    intro t ht
    have e : t = 6 := by omega
    subst e
    rw [psum6]
    refine ⟨fun _ => ?_, fun w => absurd (by decide) w⟩
    refine wait_ok (g := fun j => (qs j).length) (fun j hj => (hQ j hj).2.2.2.2.2.2.2.1) _ ?_
    exact hfin _
  | succ d ih =>
    intro t ht
    refine ⟨fun w => absurd w (nI_ge (b := 6) (by omega) (by decide)), fun _ => ?_⟩
    refine bw_ok (by omega) (hW.len t (by omega)) (hQ t (by omega)).2.2.2.2.2.2.2 (hQ t (by omega)).bytes _ ?_
    rw [nI_1, nI_add, Nat.add_assoc]
    exact ih (t + 1) (by omega)
def DVs (m : Nat) (σ τ : ST) : Prop := ∀ j, j < 6 → DV m σ τ j
/-- a count more, both sides -/
theorem cnt_sim {n now b f k : Nat} {qs : Nat → List Nat} {rd : List Nat} {X : Option Nat} {σ τ : ST} (h : Sim n now qs rd X σ τ) (hb : b < 6) (hf : (f = 40 ∧ k = 0) ∨ (f = 43 ∧ k = 2) ∨ (f = 44 ∧ k = 3) ∨ (f = 46 ∧ k = 5)) : Sim n now qs rd X (upI σ f b (sI σ f b + 1)) (upI τ 1029 (10 * b + k) (sI τ 1029 (10 * b + k) + 1)) ∧ ∀ m, DVs m σ τ → DVs m (upI σ f b (sI σ f b + 1)) (upI τ 1029 (10 * b + k) (sI τ 1029 (10 * b + k) + 1)) := by
  obtain ⟨hQ, hW, hS, hC, hK, hF, hB, hR, hM, hRQ, hL, hRF, hCV, hDV, hMV, hn⟩ := h
  have hI : ∀ f' k', ¬ (40 ≤ f' ∧ f' ≤ 46) → sI (upI σ f b (sI σ f b + 1)) f' k' = sI σ f' k' := fun f' k' g => by rw [sI_upI, if_neg (by omega)]
  have hT : ∀ f' k', f' ≠ 1029 → sI (upI τ 1029 (10 * b + k) (sI τ 1029 (10 * b + k) + 1)) f' k' = sI τ f' k' := fun f' k' g => by rw [sI_upI, if_neg (fun w => g w.1)]
  have hD : ∀ m, DVs m σ τ → DVs m (upI σ f b (sI σ f b + 1)) (upI τ 1029 (10 * b + k) (sI τ 1029 (10 * b + k) + 1)) := fun m g j hj => (g j hj).congr (fun f hf => hI f j (by omega)) (fun _ _ => rfl) (fun f hf => hT f j (by omega)) (fun _ _ => rfl)
  refine ⟨⟨hQ.congr hW.len (fun _ _ _ => rfl) (fun _ _ => rfl) (fun f p hf _ => hI f p (by omega)) (fun f j hf => hI f j (by omega)) (fun k => hT 1023 k (by omega)) (fun f k hf => hT f k (by omega)), hW.congr (fun f hf => hI f 0 (by omega)) (fun p _ => hI 82 p (by omega)), hS.congr (fun f hf => hI f 0 (by omega)) (fun _ _ => rfl) (fun f hf => hT f 0 (by omega)) (fun _ _ => rfl), ?_, hK.congr (fun f j hf => hI f j (by omega)) (fun f j hf => hT f j (by omega)), ?_, ?_, hR.congr rfl rfl (fun _ => rfl), hM.congr (hT 1030 0 (by omega)) (fun k => hT 1031 k (by omega)), hRQ, hL.congr (hI 65 0 (by omega)) (hT 1036 0 (by omega)) (fun k => hT 1037 k (by omega)) (fun _ => rfl) (fun _ => rfl) (fun f p hf _ _ => hI f p (by omega)) (fun _ w => w) (Nat.le_refl _), hRF, hCV.congr (hI 1 0 (by omega)) (hI 2 0 (by omega)) (fun _ => rfl) (hT 1034 0 (by omega)) (fun _ => rfl), hD _ hDV, fun j hj => (hMV j hj).congr (fun f hf => hI f j (by omega)) (fun _ _ => rfl) (fun f hf => hT f j (by omega)) (fun _ _ => rfl), hn⟩, hD⟩
  · intro j hj
    by_cases e : j = b
    · subst e
      obtain ⟨w0, w1, w2, w3, w4, w5, w8⟩ := hC j hj
      rcases hf with ⟨rfl, rfl⟩ | ⟨rfl, rfl⟩ | ⟨rfl, rfl⟩ | ⟨rfl, rfl⟩ <;> (unfold SC1; simp [sI_upI, w0, w1, w2, w3, w4, w5, w8])
    · exact (hC j hj).congr (fun f' hf' => by rw [sI_upI, if_neg (fun w => e w.2)]) (fun k' hk' => by rw [sI_upI, if_neg (by omega)])
  · intro j hj
    unfold SF1
    rw [hI 38 j (by omega), hI 114 0 (by omega), hT 1032 j (by omega)]
    exact hF j hj
  · unfold SB
    rw [hI 114 0 (by omega), hT 1033 0 (by omega)]
    exact hB
/-- a number more, both sides -/
theorem num_sim {n now : Nat} {qs : Nat → List Nat} {rd : List Nat} {X : Option Nat} {σ τ : ST} (h : Sim n now qs rd X σ τ) : Sim n now qs rd X (upI σ 133 0 (sI σ 133 0 + 1)) (upI τ 1002 0 (sI τ 1002 0 + 1)) ∧ ∀ m, DVs m σ τ → DVs m (upI σ 133 0 (sI σ 133 0 + 1)) (upI τ 1002 0 (sI τ 1002 0 + 1)) := by
  obtain ⟨hQ, hW, hS, hC, hK, hF, hB, hR, hM, hRQ, hL, hRF, hCV, hDV, hMV, hn⟩ := h
  have hI : ∀ f' k', f' ≠ 133 → sI (upI σ 133 0 (sI σ 133 0 + 1)) f' k' = sI σ f' k' := fun f' k' g => by rw [sI_upI, if_neg (by omega)]
  have hT : ∀ f' k', f' ≠ 1002 → sI (upI τ 1002 0 (sI τ 1002 0 + 1)) f' k' = sI τ f' k' := fun f' k' g => by rw [sI_upI, if_neg (fun w => g w.1)]
  have hD : ∀ m, DVs m σ τ → DVs m (upI σ 133 0 (sI σ 133 0 + 1)) (upI τ 1002 0 (sI τ 1002 0 + 1)) := fun m g j hj => (g j hj).congr (fun f hf => hI f j (by omega)) (fun _ _ => rfl) (fun f hf => hT f j (by omega)) (fun _ _ => rfl)
  refine ⟨⟨hQ.congr hW.len (fun _ _ _ => rfl) (fun _ _ => rfl) (fun f p hf _ => hI f p (by omega)) (fun f j hf => hI f j (by omega)) (fun k => hT 1023 k (by omega)) (fun f k hf => hT f k (by omega)), hW.congr (fun f hf => hI f 0 (by omega)) (fun p _ => hI 82 p (by omega)), ?_, fun j hj => (hC j hj).congr (fun f hf => hI f j (by omega)) (fun k _ => hT _ _ (by omega)), hK.congr (fun f j hf => hI f j (by omega)) (fun f j hf => hT f j (by omega)), ?_, ?_, hR.congr rfl rfl (fun _ => rfl), hM.congr (hT 1030 0 (by omega)) (fun k => hT 1031 k (by omega)), hRQ, hL.congr (hI 65 0 (by omega)) (hT 1036 0 (by omega)) (fun k => hT 1037 k (by omega)) (fun _ => rfl) (fun _ => rfl) (fun f p hf _ _ => hI f p (by omega)) (fun _ w => w) (Nat.le_refl _), hRF, hCV.congr (hI 1 0 (by omega)) (hI 2 0 (by omega)) (fun _ => rfl) (hT 1034 0 (by omega)) (fun _ => rfl), hD _ hDV, fun j hj => (hMV j hj).congr (fun f hf => hI f j (by omega)) (fun _ _ => rfl) (fun f hf => hT f j (by omega)) (fun _ _ => rfl), hn⟩, hD⟩
  · obtain ⟨u1, u2, u3, ⟨q, u4⟩, u5, u6, u7, u8, u9, u10, u11⟩ := hS
    unfold SS
    rw [hI 132 0 (by omega), hI 136 0 (by omega), hT 1001 0 (by omega), hT 1004 0 (by omega), sI_s, sI_s]
    exact ⟨u1, u2, u3, ⟨q + 1, by rw [u4, nI_1]⟩, by rw [u5], u6, u7, u8, u9, u10, u11⟩
  · intro j hj
    unfold SF1
    rw [hI 38 j (by omega), hI 114 0 (by omega), hT 1032 j (by omega)]
    exact hF j hj
  · unfold SB
    rw [hI 114 0 (by omega), hT 1033 0 (by omega)]
    exact hB
/-- the mean's words of a class changed, both sides -/
theorem mean_sim {n now b : Nat} {qs : Nat → List Nat} {rd : List Nat} {X : Option Nat} {σ τ σ' τ' : ST} (h : Sim n now qs rd X σ τ) (fr : frM b σ σ' τ τ') (hm : MV now σ' τ' b) (hc : CV 600 σ' τ') : Sim n now qs rd X σ' τ' ∧ ∀ m, DVs m σ τ → DVs m σ' τ' := by
  obtain ⟨hQ, hW, hS, hC, hK, hF, hB, hR, hM, hRQ, hL, hRF, hCV, hDV, hMV, hn⟩ := h
  obtain ⟨f1, f2, f3, f4, f5⟩ := fr
  have hD : ∀ m, DVs m σ τ → DVs m σ' τ' := fun m g j hj => (g j hj).congr (fun f hf => f2 f j (by omega) (by omega)) (fun f hf => f3 f j (by omega)) (fun f hf => f4 f j (by omega) (by omega)) (fun f hf => f5 f j (by omega) (by omega))
  refine ⟨⟨hQ.congr hW.len (fun f k _ => f1 f k) (fun p _ => f1 87 p) (fun f p hf _ => f2 f p (by omega) (by omega)) (fun f j hf => f2 f j (by omega) (by omega)) (fun k => f4 1023 k (by omega) (by omega)) (fun f k hf => f4 f k (by omega) (by omega)), hW.congr (fun f hf => f2 f 0 (by omega) (by omega)) (fun p _ => f2 82 p (by omega) (by omega)), hS.congr (fun f hf => f2 f 0 (by omega) (by omega)) (fun f hf => f3 f 0 (by omega)) (fun f hf => f4 f 0 (by omega) (by omega)) (fun f hf => f5 f 0 (by omega) (by omega)), fun j hj => (hC j hj).congr (fun f hf => f2 f j (by omega) (by omega)) (fun k _ => f4 _ _ (by omega) (by omega)), hK.congr (fun f j hf => f2 f j (by omega) (by omega)) (fun f j hf => f4 f j (by omega) (by omega)), ?_, ?_, hR.congr (f1 112 0) (f1 113 0) (fun i => f1 39 i), hM.congr (f4 1030 0 (by omega) (by omega)) (fun k => f4 1031 k (by omega) (by omega)), hRQ, hL.congr (f2 65 0 (by omega) (by omega)) (f4 1036 0 (by omega) (by omega)) (fun k => f4 1037 k (by omega) (by omega)) (fun k => f1 64 k) (fun k => f1 81 k) (fun f p hf _ _ => f2 f p (by omega) (by omega)) (fun _ w => w) (Nat.le_refl _), ⟨fun k p hk => hRF.1 k p (by rw [← f1]; exact hk), fun k p hk => hRF.2 k p (by rw [← f1]; exact hk)⟩, hc, hD _ hDV, ?_, hn⟩, hD⟩
  · intro j hj
    unfold SF1
    rw [f2 38 j (by omega) (by omega), f2 114 0 (by omega) (by omega), f4 1032 j (by omega) (by omega)]
    exact hF j hj
  · unfold SB
    rw [f2 114 0 (by omega) (by omega), f4 1033 0 (by omega) (by omega)]
    exact hB
  · intro j hj
    by_cases e : j = b
    · rw [e]; exact hm
    · exact (hMV j hj).congr (fun f hf => f2 f j (by omega) (by omega)) (fun f hf => f3 f j (by omega)) (fun f hf => f4 f j (by omega) (by omega)) (fun f hf => f5 f j (by omega) (by omega))
/-- the packet under way marked -/
theorem mark_sim {n now p : Nat} {v : Int32} {qs : Nat → List Nat} {rd : List Nat} {σ τ : ST} (h : Sim n now qs rd (some p) σ τ) (hnl : ¬ live qs p) : Sim n now qs rd (some p) (upI σ 85 p v) τ ∧ ∀ m, DVs m σ τ → DVs m (upI σ 85 p v) τ := by
  obtain ⟨hQ, hW, hS, hC, hK, hF, hB, hR, hM, hRQ, hL, hRF, hCV, hDV, hMV, hn⟩ := h
  have hI : ∀ f' k', ¬ (f' = 85 ∧ k' = p) → sI (upI σ 85 p v) f' k' = sI σ f' k' := fun f' k' g => by rw [sI_upI, if_neg g]
  have hD : ∀ m, DVs m σ τ → DVs m (upI σ 85 p v) τ := fun m g j hj => (g j hj).congr (fun f hf => hI f j (by omega)) (fun _ _ => rfl) (fun _ _ => rfl) (fun _ _ => rfl)
  refine ⟨⟨hQ.congr hW.len (fun _ _ _ => rfl) (fun _ _ => rfl) (fun f q hf hq => hI f q (fun w => hnl (w.2 ▸ hq))) (fun f j hf => hI f j (by omega)) (fun _ => rfl) (fun _ _ _ => rfl), hW.congr (fun f hf => hI f 0 (by omega)) (fun p _ => hI 82 p (by omega)), hS.congr (fun f hf => hI f 0 (by omega)) (fun _ _ => rfl) (fun _ _ => rfl) (fun _ _ => rfl), fun j hj => (hC j hj).congr (fun f hf => hI f j (by omega)) (fun _ _ => rfl), hK.congr (fun f j hf => hI f j (by omega)) (fun _ _ _ => rfl), ?_, ?_, hR.congr rfl rfl (fun _ => rfl), hM, hRQ, hL.congr (hI 65 0 (by omega)) rfl (fun _ => rfl) (fun _ => rfl) (fun _ => rfl) (fun f q hf _ hq => hI f q (fun w => hq (by rw [w.2]))) (fun _ w => w) (Nat.le_refl _), hRF, hCV.congr (hI 1 0 (by omega)) (hI 2 0 (by omega)) (fun _ => rfl) rfl (fun _ => rfl), hD _ hDV, fun j hj => (hMV j hj).congr (fun f hf => hI f j (by omega)) (fun _ _ => rfl) (fun _ _ => rfl) (fun _ _ => rfl), hn⟩, hD⟩
  · intro j hj
    unfold SF1
    rw [hI 38 j (by omega), hI 114 0 (by omega)]
    exact hF j hj
  · unfold SB
    rw [hI 114 0 (by omega)]
    exact hB
/-- the packet under way gone -/
theorem drop_sim {n now : Nat} {qs : Nat → List Nat} {rd : List Nat} {X : Option Nat} {σ τ : ST} (h : Sim n now qs rd X σ τ) : Sim n now qs rd none σ τ := by
  obtain ⟨s1, s2, s3, s4, s5, s6, s7, s8, s9, s10, s11, s12, s13, s14, s15, s16⟩ := h
  exact ⟨s1, s2, s3, s4, s5, s6, s7, s8, s9, s10, s11.congr rfl rfl (fun _ => rfl) (fun _ => rfl) (fun _ => rfl) (fun _ _ _ _ _ => rfl) (fun q w => by
    rcases w with w | w
    · exact Or.inl w
    · cases w) (by show _ + 0 ≤ _ + xc X; omega), s12, s13, s14, s15, s16⟩
theorem SQ1.mono {n : Nat} {σ τ : ST} {j : Nat} {l : List Nat} (h : SQ1 n σ τ j l) : SQ1 (n + 1) σ τ j l := by
  obtain ⟨a1, a2, a3, a4, a5, a6, a7, a8⟩ := h
  exact ⟨a1, a2, a3, a4, fun p hp => ⟨Nat.lt_succ_of_lt (a5 p hp).1, (a5 p hp).2⟩, a6, a7, a8⟩
/-- a packet made, the class side -/
theorem arr_ok {n now b bp : Nat} {a3 : Int32} {σ τ : ST} {qs : Nat → List Nat} {rd : List Nat} (h : Sim n now qs rd none σ τ) (hb : b < 6) (h1 : 1 ≤ bp) (h2 : bp ≤ 1500) (h3 : isB a3) (hn5 : n < 512) :
    ∃ σ1, freshP n σ ∧ (∀ K : ST → Prop, K σ1 → wp_X5_init (n + 1) (npk σ n) n (sI (npk σ n) 133 0) b (nI bp) (sI (npk σ n) 132 0) a3 K) ∧ Sim (n + 1) now qs rd (some n) σ1 τ ∧ DVs (n - tot (fun j => (qs j).length)) σ1 τ ∧ okP (n + 1) σ1 b n ∧ sR σ1 87 n = none ∧ sI σ1 80 n = sI σ 133 0 ∧ sI σ1 82 n = nI bp ∧ sI σ1 83 n = nI now ∧ sI σ1 84 n = a3 ∧ sI σ1 85 n = 0 ∧ ¬ live qs n ∧ sI σ1 133 0 = sI σ 133 0 := by
  obtain ⟨hQ, hW, hS, hC, hK, hF, hB, hR, hM, hRQ, hL, hRF, hCV, hDV, hMV, hn⟩ := h
  have g132 : sI (npk σ n) 132 0 = nI now := by rw [npk_If σ n 132 0 (by omega)]; exact hS.1
  have g133 : sI (npk σ n) 133 0 = sI σ 133 0 := npk_If σ n 133 0 (by omega)
  obtain ⟨σ1, eσ⟩ : ∃ z, z = upI (upI (upI (upR (upI (upR (upI (upI (npk σ n) 85 n 0) 86 n 0) 87 n none) 80 n (sI σ 133 0)) 81 n (some b)) 82 n (nI bp)) 83 n (nI now)) 84 n a3 := ⟨_, rfl⟩
  have hI : ∀ f k, ¬ ((80 ≤ f ∧ f ≤ 86) ∧ k = n) → sI σ1 f k = sI σ f k := fun f k g => by
    rw [eσ]
    simp only [sI_upI, sI_upR]
    rw [if_neg (by omega), if_neg (by omega), if_neg (by omega), if_neg (by omega), if_neg (by omega), if_neg (by omega)]
    by_cases e : k = n
    · exact npk_If σ n f k (by omega)
    · exact npk_I σ n f k e
  have hr : ∀ f k, ¬ ((f = 81 ∨ f = 87) ∧ k = n) → sR σ1 f k = sR σ f k := fun f k g => by
    rw [eσ]
    simp only [sR_upI, sR_upR]
    rw [if_neg (by omega), if_neg (by omega)]
    by_cases e1 : f = 81
    · subst e1; exact npk_R81 σ n k (by omega)
    · by_cases e2 : f = 87
      · subst e2; exact npk_R87 σ n k (by omega)
      · exact npk_R σ n f k e1 e2
  have hD : ∀ f k, sD σ1 f k = sD σ f k := fun f k => by rw [eσ]; rfl
  have r87 : sR σ1 87 n = none := by rw [eσ]; simp [sR_upI, sR_upR]
  have r81 : sR σ1 81 n = some b := by rw [eσ]; simp [sR_upI, sR_upR]
  have i80 : sI σ1 80 n = sI σ 133 0 := by rw [eσ]; simp [sI_upI, sI_upR]
  have i82 : sI σ1 82 n = nI bp := by rw [eσ]; simp [sI_upI, sI_upR]
  have i83 : sI σ1 83 n = nI now := by rw [eσ]; simp [sI_upI, sI_upR]
  have i84 : sI σ1 84 n = a3 := by rw [eσ]; simp [sI_upI, sI_upR]
  have i85 : sI σ1 85 n = 0 := by rw [eσ]; simp [sI_upI, sI_upR]
  have hlt : ∀ j, j < 6 → ∀ p ∈ qs j, p < n := fun j hj p hp => ((hQ j hj).2.2.2.2.1 p hp).1
  have hne : ∀ j, j < 6 → ∀ p ∈ qs j, p ≠ n := fun j hj p hp => Nat.ne_of_lt (hlt j hj p hp)
  have hnl : ¬ live qs n := fun ⟨j, hj, hp⟩ => hne j hj n hp rfl
  have hDs : DVs (n - tot (fun j => (qs j).length)) σ1 τ := fun j hj => (hDV j hj).congr (fun f hf => hI f j (by omega)) (fun f _ => hD f j) (fun _ _ => rfl) (fun _ _ => rfl)
  refine ⟨σ1, ⟨fun j hj => ⟨fun w => ?_, fun w => ?_⟩, fun k w => ?_, fun k _ w => ?_⟩, fun K hKK => ?_, ⟨fun j hj => ?_, ?_, ?_, ?_, ?_, ?_, ?_, ?_, hM, hRQ, ?_, ?_, ?_, fun j hj => DV.mono (hDs j hj) (by omega), ?_, by omega⟩, hDs, ⟨Nat.lt_succ_self n, r81, ⟨bp, h1, h2, i82⟩, by rw [i84]; exact h3, by rw [i85]; exact isB0⟩, r87, i80, i82, i83, i84, i85, hnl, hI 133 0 (by omega)⟩
  · rw [(hQ j hj).1] at w
    exact hne j hj n (List.mem_of_head? w) rfl
  · rw [(hQ j hj).2.1] at w
    exact hne j hj n (List.mem_of_getLast? w) rfl
  · exact Nat.lt_irrefl n (hRF.1 k n w)
  · exact Nat.lt_irrefl n (hRF.2 k n w)
  · unfold wp_X5_init
    rw [g132, g133]
    refine ⟨Nat.lt_succ_self n, fun s2 e2 s3 e3 s4 e4 s5 e5 s6 e6 s7 e7 s8 e8 => ⟨h3, fun s9 e9 => ?_⟩⟩
    have : s9 = σ1 := by rw [e9, e8, e7, e6, e5, e4, e3, e2, eσ]
    rw [this]; exact hKK
  · exact ((hQ j hj).congr (hr 96 j (by omega)) (hr 97 j (by omega)) (fun p hp => hr 87 p (by have := hne j hj p hp; omega)) (fun p hp => hr 81 p (by have := hne j hj p hp; omega)) (fun f p hf hp => hI f p (by have := hne j hj p hp; omega)) (hI 98 j (by omega)) (hI 99 j (by omega)) rfl (fun _ _ _ _ => rfl)).mono
  · exact hW.congr (fun f hf => hI f 0 (by omega)) (fun p ⟨j, hj, hp⟩ => hI 82 p (by have := hne j hj p hp; omega))
  · exact hS.congr (fun f hf => hI f 0 (by omega)) (fun f _ => hD f 0) (fun _ _ => rfl) (fun _ _ => rfl)
  · exact fun j hj => (hC j hj).congr (fun f hf => hI f j (by omega)) (fun _ _ => rfl)
  · exact hK.congr (fun f j hf => hI f j (by omega)) (fun _ _ _ => rfl)
  · intro j hj
    unfold SF1
    rw [hI 38 j (by omega), hI 114 0 (by omega)]
    exact hF j hj
  · unfold SB
    rw [hI 114 0 (by omega)]
    exact hB
  · exact hR.congr (hr 112 0 (by omega)) (hr 113 0 (by omega)) (fun i => hr 39 i (by omega))
  · obtain ⟨c, l1, l2, l3, l5, l4⟩ := hL
    have x0 : xc none = 0 := rfl
    have x1 : xc (some n) = 1 := rfl
    refine ⟨c, by rw [hI 65 0 (by omega)]; exact l1, by omega, l3, fun y hy hc hz => by rw [hr 64 y (by omega)]; exact l5 y hy hc hz, fun k hk => ?_⟩
    obtain ⟨p, b1, b2, b3, b4, ⟨j, b5, b6, b7⟩, b8, b9, b10, b11⟩ := l4 k hk
    refine ⟨p, by rw [hr 64 _ (by omega)]; exact b1, by omega, b3, fun w => (by cases w; omega), ⟨j, b5, by rw [hr 81 p (by omega)]; exact b6, b7⟩, ?_, ?_, ?_, ?_⟩
    · rw [hI 80 p (by omega)]; exact b8
    · rw [hI 82 p (by omega)]; exact b9
    · rw [hI 86 p (by omega)]; exact b10
    · rw [hI 85 p (by omega)]; exact b11
  · refine ⟨fun k p hk => ?_, fun k p hk => ?_⟩
    · rw [hr 64 k (by omega)] at hk
      exact Nat.lt_succ_of_lt (hRF.1 k p hk)
    · by_cases e : k = n
      · rw [e, r87] at hk; cases hk
      · rw [hr 87 k (by omega)] at hk
        exact Nat.lt_succ_of_lt (hRF.2 k p hk)
  · exact hCV.congr (hI 1 0 (by omega)) (hI 2 0 (by omega)) (fun k => hD 0 k) rfl (fun _ => rfl)
  · exact fun j hj => (hMV j hj).congr (fun f hf => hI f j (by omega)) (fun f _ => hD f j) (fun _ _ => rfl) (fun _ _ => rfl)
