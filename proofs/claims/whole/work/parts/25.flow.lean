def wp_X2_takesMark (n : Nat) (σ : ST) (j : Nat) (a1 : Nat) (K : Int32 → ST → Prop) : Prop := a1 < n ∧
(((sI σ 84 a1) = 0 → (isB (sI σ 84 a1) ∧
K (sI σ 84 a1) σ)) ∧ (¬ ((sI σ 84 a1) = 0) → (((¬ (sI σ 85 a1) = 0 → (isB (sI σ 84 a1) ∧
K (sI σ 84 a1) σ)) ∧ ((sI σ 85 a1) = 0 → (∀ s4, s4 = upI σ 85 a1 1 →
j < 6 ∧
∀ s6, s6 = upI s4 46 j ((sI s4 46 j) + 1) →
isB (sI s6 84 a1) ∧
K (sI s6 84 a1) s6))))))
set_option maxRecDepth 20000 in
theorem iX2_takesMark_5 : ∀ w ∈ wsX50, w ∈ wsX2_takesMark := by decide +kernel
set_option maxRecDepth 20000 in
theorem iX2_takesMark_2 : ∀ w ∈ wsX20, w ∈ wsX2_takesMark := by decide +kernel
set_option maxHeartbeats 8000000 in
set_option maxRecDepth 100000 in
theorem c_X2_takesMark (l : Launch) (dC : Nat → ClassId) (dI : Nat → Nat → Nat) (cA : Nat → ClassId) (ad : Nat → Nat → Nat) (n : Nat) (σ : ST) (j : Nat) (a1 : Nat) (sz : Nat) (K : Int32 → ST → Prop) (hwp : wp_X2_takesMark n σ j a1 K) : Met l yX2_takesMark wsX2_takesMark ({ frames := 0, cells := 0, slots := 0, locals := 0 } : Room) (va_Pc [.ref (ad 2 j), .ref (ad 5 a1)] (preC dC dI cA (Wc cA ad n σ) sz)) (va_Qi K (atC dC dI cA (Wc cA ad n) (va_A (Wc cA ad n σ) sz)) (va_A (Wc cA ad n σ) sz)) 0 0 (va_A (Wc cA ad n σ) sz) := by
  refine Met.ofW (cc := cX2_takesMark) (maxL := 2) (ret := (some .boolean)) (by decide) rfl ?_
  intro p e s m args below meth c s₁ B hml hv
  obtain ⟨rfl, hsz, hP, hK, hD0⟩ := hv
  have hx := B.exec
  have hb := B.bytes
  have hr := B.returns
  have hts := atoms_spec (ws := wsX2_takesMark) B.pre
  have hown : s.vm.findClass RX2 = some m.cls := findClass_of_methodNamed B.named
  have hlocks := B.notSynchronized
  subst hsz
  have hD := hD0.self (sz := s.heap.size)
  clear hD0
  generalize hAe : va_A (Wc cA ad n σ) s.heap.size = A at hD ⊢
  have hA : ∀ q : Nat, s.heap.size ≤ q → A q := fun q h => by rw [← hAe]; exact Or.inr h
  have hS : va_S A s.heap s.heap [] := va_S.rf
  have hkc : 0 ≤ 0 := Nat.le_refl 0
  have hks : 0 ≤ 0 := Nat.le_refl 0
  have hl := lv_entry ([.ref (ad 2 j), .ref (ad 5 a1)]) (n := 2) (Nat.le_of_ble_eq_true rfl)
  rw [lg_entry_eq]
  generalize (lg_sl ([.ref (ad 2 j), .ref (ad 5 a1)]) ++ List.replicate (2 - (lg_sl ([.ref (ad 2 j), .ref (ad 5 a1)])).length) Slot.unset).toArray = ls at hl ⊢
  have hl : lv_has ls 2 [(0, .ref (ad 2 j)), (1, .ref (ad 5 a1))] := hl
  unfold wp_X2_takesMark at hwp
  generalize hHe : s.heap = H at hP ⊢
  have hS : va_S A s.heap H [] := by rw [← hHe]; exact va_S.rf
  clear hHe
  refine lv_aload_n hx hb dX2_takesMark_0 rfl (lv_at hl 1 rfl) ?_
  obtain ⟨hb_1, hwp⟩ := hwp
  refine va_get (D := (dC, dI)) (ci := 5) (v := .int (sI σ 84 a1)) (C := RX5) (T := TX5) (N := 8) hx hb hts iX2_takesMark_5 hown hK hP (31 + a1) (atPacket hb_1) rfl 4 (by decide) (hts (.fieldLink RX2 97 "LinkQueues$Packet" "markable" "Z") (by decide +kernel)) (fun _ h9 => h9) rfl dX2_takesMark_1 ?_
  refine lv_if_eq (tgt := 29) hx hb dX2_takesMark_4 (by decide) (fun c_4 => ?_) (fun c_4 => ?_)
  · replace hwp := hwp.1 c_4
    refine lv_aload_n hx hb dX2_takesMark_29 rfl (lv_at hl 1 rfl) ?_
    refine va_get (D := (dC, dI)) (ci := 5) (v := .int (sI σ 84 a1)) (C := RX5) (T := TX5) (N := 8) hx hb hts iX2_takesMark_5 hown hK hP (31 + a1) (atPacket hb_1) rfl 4 (by decide) (hts (.fieldLink RX2 97 "LinkQueues$Packet" "markable" "Z") (by decide +kernel)) (fun _ h9 => h9) rfl dX2_takesMark_30 ?_
    obtain ⟨hB_2, hwp⟩ := hwp
    exact W.zret (ty := .boolean) (v := (sI σ 84 a1)) hx hb hr (isB_nar hB_2) (fun t ht hW => ⟨⟨(sI σ 84 a1), σ, rfl, hwp, by rw [ht]; exact hP, va_K.moved hW.alike hK, hD⟩, hS.F ht⟩) hS.2.2 dX2_takesMark_33
  · replace hwp := hwp.2 c_4
    refine lv_aload_n hx hb dX2_takesMark_7 rfl (lv_at hl 1 rfl) ?_
    refine va_get (D := (dC, dI)) (ci := 5) (v := .int (sI σ 85 a1)) (C := RX5) (T := TX5) (N := 8) hx hb hts iX2_takesMark_5 hown hK hP (31 + a1) (atPacket hb_1) rfl 5 (by decide) (hts (.fieldLink RX2 101 "LinkQueues$Packet" "marked" "Z") (by decide +kernel)) (fun _ h9 => h9) rfl dX2_takesMark_8 ?_
    refine lv_if_ne (tgt := 29) hx hb dX2_takesMark_11 (by decide) (fun c_11 => ?_) (fun c_11 => ?_)
    · replace hwp := hwp.1 c_11
      refine lv_aload_n hx hb dX2_takesMark_29 rfl (lv_at hl 1 rfl) ?_
      refine va_get (D := (dC, dI)) (ci := 5) (v := .int (sI σ 84 a1)) (C := RX5) (T := TX5) (N := 8) hx hb hts iX2_takesMark_5 hown hK hP (31 + a1) (atPacket hb_1) rfl 4 (by decide) (hts (.fieldLink RX2 97 "LinkQueues$Packet" "markable" "Z") (by decide +kernel)) (fun _ h9 => h9) rfl dX2_takesMark_30 ?_
      obtain ⟨hB_3, hwp⟩ := hwp
      exact W.zret (ty := .boolean) (v := (sI σ 84 a1)) hx hb hr (isB_nar hB_3) (fun t ht hW => ⟨⟨(sI σ 84 a1), σ, rfl, hwp, by rw [ht]; exact hP, va_K.moved hW.alike hK, hD⟩, hS.F ht⟩) hS.2.2 dX2_takesMark_33
    · replace hwp := hwp.2 c_11
      refine lv_aload_n hx hb dX2_takesMark_14 rfl (lv_at hl 1 rfl) ?_
      refine lv_iconst (v := 1) hx hb dX2_takesMark_15 (by decide) ?_
      obtain ⟨s4, e_s4⟩ : ∃ z, z = upI σ 85 a1 1 := ⟨_, rfl⟩
      refine st_put (D := (dC, dI)) (ci := 5) (v := .int 1) (ty := .boolean) (C := RX5) (T := TX5) (N := 8) (ws' := Wc cA ad n s4) hx hb hts iX2_takesMark_5 tyX5 tyX5_ok nmX5 hown hK hP hD hS (31 + a1) (atPacket hb_1) rfl 5 (by decide) (hts (.fieldLink RX2 101 "LinkQueues$Packet" "marked" "Z") (by decide +kernel)) (fun _ h9 => h9) rfl (by decide +kernel) rfl rfl (Nat.le_of_ble_eq_true rfl) dX2_takesMark_16 (by rw [e_s4]; exact stPacket_5 hb_1 1) (fun H locs hP hD hS => ?_)
      replace hwp := hwp s4 e_s4
      refine lv_aload_n hx hb dX2_takesMark_19 rfl (lv_at hl 0 rfl) ?_
      refine lv_dup hx hb dX2_takesMark_20 rfl ?_
      obtain ⟨hb_5, hwp⟩ := hwp
      refine va_get (D := (dC, dI)) (ci := 2) (v := .int (sI s4 46 j)) (C := RX2) (T := TX2) (N := 15) hx hb hts iX2_takesMark_2 hown hK hP (7 + j) (atFlow hb_5) rfl 14 (by decide) (hts (.fieldLink RX2 64 "LinkQueues$Flow" "marked" "I") (by decide +kernel)) (fun _ h9 => h9) rfl dX2_takesMark_21 ?_
      refine lv_iconst (v := 1) hx hb dX2_takesMark_24 (by decide) ?_
      refine lv_iadd hx hb dX2_takesMark_25 ?_
      obtain ⟨s6, e_s6⟩ : ∃ z, z = upI s4 46 j ((sI s4 46 j) + 1) := ⟨_, rfl⟩
      refine st_put (D := (dC, dI)) (ci := 2) (v := .int ((sI s4 46 j) + 1)) (ty := .int) (C := RX2) (T := TX2) (N := 15) (ws' := Wc cA ad n s6) hx hb hts iX2_takesMark_2 tyX2 tyX2_ok nmX2 hown hK hP hD hS (7 + j) (atFlow hb_5) rfl 14 (by decide) (hts (.fieldLink RX2 64 "LinkQueues$Flow" "marked" "I") (by decide +kernel)) (fun _ h9 => h9) rfl (by decide +kernel) rfl rfl (Nat.le_of_ble_eq_true rfl) dX2_takesMark_26 (by rw [e_s6]; exact stFlow_14 hb_5 ((sI s4 46 j) + 1)) (fun H locs hP hD hS => ?_)
      replace hwp := hwp s6 e_s6
      refine lv_aload_n hx hb dX2_takesMark_29 rfl (lv_at hl 1 rfl) ?_
      refine va_get (D := (dC, dI)) (ci := 5) (v := .int (sI s6 84 a1)) (C := RX5) (T := TX5) (N := 8) hx hb hts iX2_takesMark_5 hown hK hP (31 + a1) (atPacket hb_1) rfl 4 (by decide) (hts (.fieldLink RX2 97 "LinkQueues$Packet" "markable" "Z") (by decide +kernel)) (fun _ h9 => h9) rfl dX2_takesMark_30 ?_
      obtain ⟨hB_7, hwp⟩ := hwp
      exact W.zret (ty := .boolean) (v := (sI s6 84 a1)) hx hb hr (isB_nar hB_7) (fun t ht hW => ⟨⟨(sI s6 84 a1), s6, rfl, hwp, by rw [ht]; exact hP, va_K.moved hW.alike hK, hD⟩, hS.F ht⟩) hS.2.2 dX2_takesMark_33
def wp_X2_letsIn (n : Nat) (σ : ST) (j : Nat) (a1 : Nat) (a2 : Int32) (K : Int32 → ST → Prop) : Prop := j < 6 ∧
(((sI σ 36 j) = 1 → (j < 6 ∧
j < 6 ∧
wp_X3_reckon n σ j (sI σ 98 j) a2 (fun s3 =>
wp_X3_refuses n s3 j (fun r6 s5 =>
((r6 = 0 → (wp_X3_hits n s5 j (fun r8 s7 =>
((r8 = 0 → (K 1 s7)) ∧ (¬ (r8 = 0) → (wp_X2_takesMark n s7 j a1 (fun r10 s9 =>
((r10 = 0 → (K 0 s9)) ∧ (¬ (r10 = 0) → (K 1 s9)))
))))
))) ∧ (¬ (r6 = 0) → (K 0 s5)))
)
))) ∧ (¬ ((sI σ 36 j) = 1) → (K 1 σ)))
set_option maxRecDepth 20000 in
theorem iX2_letsIn_2 : ∀ w ∈ wsX20, w ∈ wsX2_letsIn := by decide +kernel
set_option maxRecDepth 20000 in
theorem iX2_letsIn_6 : ∀ w ∈ wsX60, w ∈ wsX2_letsIn := by decide +kernel
set_option maxHeartbeats 8000000 in
set_option maxRecDepth 100000 in
theorem c_X2_letsIn (l : Launch) (dC : Nat → ClassId) (dI : Nat → Nat → Nat) (cA : Nat → ClassId) (ad : Nat → Nat → Nat) (n : Nat) (σ : ST) (j : Nat) (a1 : Nat) (a2 : Int32) (sz : Nat) (K : Int32 → ST → Prop) (hwp : wp_X2_letsIn n σ j a1 a2 K) : Met l yX2_letsIn wsX2_letsIn ({ frames := 3, cells := 0, slots := 0, locals := 68 } : Room) (va_Pc [.ref (ad 2 j), .ref (ad 5 a1), .int a2, .ref (ad 0 0)] (preC dC dI cA (Wc cA ad n σ) sz)) (va_Qi K (atC dC dI cA (Wc cA ad n) (va_A (Wc cA ad n σ) sz)) (va_A (Wc cA ad n σ) sz)) 0 0 (va_A (Wc cA ad n σ) sz) := by
  refine Met.ofW (cc := cX2_letsIn) (maxL := 4) (ret := (some .boolean)) (by decide) rfl ?_
  intro p e s m args below meth c s₁ B hml hv
  obtain ⟨rfl, hsz, hP, hK, hD0⟩ := hv
  have hx := B.exec
  have hb := B.bytes
  have hr := B.returns
  have hts := atoms_spec (ws := wsX2_letsIn) B.pre
  have hown : s.vm.findClass RX2 = some m.cls := findClass_of_methodNamed B.named
  have hlocks := B.notSynchronized
  subst hsz
  have hD := hD0.self (sz := s.heap.size)
  clear hD0
  generalize hAe : va_A (Wc cA ad n σ) s.heap.size = A at hD ⊢
  have hA : ∀ q : Nat, s.heap.size ≤ q → A q := fun q h => by rw [← hAe]; exact Or.inr h
  have hS : va_S A s.heap s.heap [] := va_S.rf
  have hkc : 0 ≤ 0 := Nat.le_refl 0
  have hks : 0 ≤ 0 := Nat.le_refl 0
  have hl := lv_entry ([.ref (ad 2 j), .ref (ad 5 a1), .int a2, .ref (ad 0 0)]) (n := 4) (Nat.le_of_ble_eq_true rfl)
  rw [lg_entry_eq]
  generalize (lg_sl ([.ref (ad 2 j), .ref (ad 5 a1), .int a2, .ref (ad 0 0)]) ++ List.replicate (4 - (lg_sl ([.ref (ad 2 j), .ref (ad 5 a1), .int a2, .ref (ad 0 0)])).length) Slot.unset).toArray = ls at hl ⊢
  have hl : lv_has ls 4 [(0, .ref (ad 2 j)), (1, .ref (ad 5 a1)), (2, .int a2), (3, .ref (ad 0 0))] := hl
  unfold wp_X2_letsIn at hwp
  generalize hHe : s.heap = H at hP ⊢
  have hS : va_S A s.heap H [] := by rw [← hHe]; exact va_S.rf
  clear hHe
  refine lv_aload_n hx hb dX2_letsIn_0 rfl (lv_at hl 0 rfl) ?_
  obtain ⟨hb_1, hwp⟩ := hwp
  refine va_get (D := (dC, dI)) (ci := 2) (v := .int (sI σ 36 j)) (C := RX2) (T := TX2) (N := 15) hx hb hts iX2_letsIn_2 hown hK hP (7 + j) (atFlow hb_1) rfl 4 (by decide) (hts (.fieldLink RX2 32 "LinkQueues$Flow" "kind" "I") (by decide +kernel)) (fun _ h9 => h9) rfl dX2_letsIn_1 ?_
  refine lv_iconst (v := 1) hx hb dX2_letsIn_4 (by decide) ?_
  refine lv_icmp_eq (tgt := 10) hx hb dX2_letsIn_5 (by decide) (fun c_5 => ?_) (fun c_5 => ?_)
  · replace hwp := hwp.1 c_5
    refine lv_aload_n hx hb dX2_letsIn_10 rfl (lv_at hl 0 rfl) ?_
    refine va_get (D := (dC, dI)) (ci := 2) (v := .ref (ad 3 j)) (C := RX2) (T := TX2) (N := 15) hx hb hts iX2_letsIn_2 hown hK hP (7 + j) (atFlow hb_1) rfl 2 (by decide) (hts (.fieldLink RX2 21 "LinkQueues$Flow" "mean" "LLinkQueues$Mean;") (by decide +kernel)) (fun _ h9 => h9) rfl dX2_letsIn_11 ?_
    refine lv_aload_n hx hb dX2_letsIn_14 rfl (lv_at hl 0 rfl) ?_
    refine va_get (D := (dC, dI)) (ci := 2) (v := .ref (ad 6 j)) (C := RX2) (T := TX2) (N := 15) hx hb hts iX2_letsIn_2 hown hK hP (7 + j) (atFlow hb_1) rfl 1 (by decide) (hts (.fieldLink RX2 12 "LinkQueues$Flow" "queue" "LLinkQueues$Queue;") (by decide +kernel)) (fun _ h9 => h9) rfl dX2_letsIn_15 ?_
    obtain ⟨hb_2, hwp⟩ := hwp
    refine va_get (D := (dC, dI)) (ci := 6) (v := .int (sI σ 98 j)) (C := RX6) (T := TX6) (N := 4) hx hb hts iX2_letsIn_6 hown hK hP (13 + j) (atQueue hb_2) rfl 2 (by decide) (hts (.fieldLink RX2 70 "LinkQueues$Queue" "packets" "I") (by decide +kernel)) (fun _ h9 => h9) rfl dX2_letsIn_18 ?_
    refine lv_iload_n hx hb dX2_letsIn_21 rfl (lv_at hl 2 rfl) ?_
    obtain ⟨hb_4, hwp⟩ := hwp
    have hF := fA hD hS hA
    refine va_callv (va_runV (As := [.int (sI σ 98 j), .int a2]) (rest := []) ⟨hx, hb, hml, hown, hts⟩ (c_X3_reckon l dC dI cA ad n σ j (sI σ 98 j) a2 H.size _ hwp) (cwV 2 hts gX2_letsIn_X3_reckon rfl rfl rfl (by decide +kernel) ⟨Nat.le_of_ble_eq_true rfl, Nat.le_of_ble_eq_true rfl⟩) ⟨fbC, va_recv hK hP (ci := 3) (q0 := (19 + j)) rfl (atMean hb_4), fun U hU hW => ⟨rfl, by rw [hU], by rw [hU]; exact hP, va_K.moved hW.alike hK, hD.weaken (fun _ _ _ _ => trivial)⟩⟩ rfl rfl hl.1 rfl (lv_room (Nat.le_of_ble_eq_true rfl)) dX2_letsIn_22 ⟨Nat.le_of_ble_eq_true rfl, Nat.le_of_ble_eq_true rfl⟩) hS (fun q _ h => hF q h) hF (fun s3 t H1 locs ht hvm hwp hB hz1 hk1 hS => ?_)
    obtain ⟨hP1, hK1, hD1⟩ := hB
    rw [ht] at hP1
    have hD2 := hD1.weaken (fun _ q _ h => hF q.1 h)
    clear hP hD
    have hP := hP1
    have hD := hD2
    clear hP1 hD1 hD2 hK1 hk1 hz1 hF
    generalize H1 = H at hP hS ⊢
    refine lv_aload_n hx hb dX2_letsIn_25 rfl (lv_at hl 0 rfl) ?_
    refine va_get (D := (dC, dI)) (ci := 2) (v := .ref (ad 3 j)) (C := RX2) (T := TX2) (N := 15) hx hb hts iX2_letsIn_2 hown hK hP (7 + j) (atFlow hb_1) rfl 2 (by decide) (hts (.fieldLink RX2 21 "LinkQueues$Flow" "mean" "LLinkQueues$Mean;") (by decide +kernel)) (fun _ h9 => h9) rfl dX2_letsIn_26 ?_
    have hF := fA hD hS hA
    refine va_calli (va_runV (As := []) (rest := []) ⟨hx, hb, hml, hown, hts⟩ (c_X3_refuses l dC dI cA ad n s3 j H.size _ hwp) (cwV 0 hts gX2_letsIn_X3_refuses rfl rfl rfl (by decide +kernel) ⟨Nat.le_of_ble_eq_true rfl, Nat.le_of_ble_eq_true rfl⟩) ⟨fbC, va_recv hK hP (ci := 3) (q0 := (19 + j)) rfl (atMean hb_4), fun U hU hW => ⟨rfl, by rw [hU], by rw [hU]; exact hP, va_K.moved hW.alike hK, hD.weaken (fun _ _ _ _ => trivial)⟩⟩ rfl rfl hl.1 rfl (lv_room (Nat.le_of_ble_eq_true rfl)) dX2_letsIn_29 ⟨Nat.le_of_ble_eq_true rfl, Nat.le_of_ble_eq_true rfl⟩) hS (fun q _ h => hF q h) hF (fun r6 s5 t H1 locs ht hvm hwp hB hz1 hk1 hS => ?_)
    obtain ⟨hP1, hK1, hD1⟩ := hB
    rw [ht] at hP1
    have hD2 := hD1.weaken (fun _ q _ h => hF q.1 h)
    clear hP hD
    have hP := hP1
    have hD := hD2
    clear hP1 hD1 hD2 hK1 hk1 hz1 hF
    generalize H1 = H at hP hS ⊢
    refine lv_if_eq (tgt := 37) hx hb dX2_letsIn_32 (by decide) (fun c_32 => ?_) (fun c_32 => ?_)
    · replace hwp := hwp.1 c_32
      refine lv_aload_n hx hb dX2_letsIn_37 rfl (lv_at hl 0 rfl) ?_
      refine va_get (D := (dC, dI)) (ci := 2) (v := .ref (ad 3 j)) (C := RX2) (T := TX2) (N := 15) hx hb hts iX2_letsIn_2 hown hK hP (7 + j) (atFlow hb_1) rfl 2 (by decide) (hts (.fieldLink RX2 21 "LinkQueues$Flow" "mean" "LLinkQueues$Mean;") (by decide +kernel)) (fun _ h9 => h9) rfl dX2_letsIn_38 ?_
      refine lv_aload_n hx hb dX2_letsIn_41 rfl (lv_at hl 3 rfl) ?_
      have hF := fA hD hS hA
      refine va_calli (va_runV (As := [.ref (ad 0 0)]) (rest := []) ⟨hx, hb, hml, hown, hts⟩ (c_X3_hits l dC dI cA ad n s5 j H.size _ hwp) (cwV 1 hts gX2_letsIn_X3_hits rfl rfl rfl (by decide +kernel) ⟨Nat.le_of_ble_eq_true rfl, Nat.le_of_ble_eq_true rfl⟩) ⟨fbC, va_recv hK hP (ci := 3) (q0 := (19 + j)) rfl (atMean hb_4), fun U hU hW => ⟨rfl, by rw [hU], by rw [hU]; exact hP, va_K.moved hW.alike hK, hD.weaken (fun _ _ _ _ => trivial)⟩⟩ rfl rfl hl.1 rfl (lv_room (Nat.le_of_ble_eq_true rfl)) dX2_letsIn_42 ⟨Nat.le_of_ble_eq_true rfl, Nat.le_of_ble_eq_true rfl⟩) hS (fun q _ h => hF q h) hF (fun r8 s7 t H1 locs ht hvm hwp hB hz1 hk1 hS => ?_)
      obtain ⟨hP1, hK1, hD1⟩ := hB
      rw [ht] at hP1
      have hD2 := hD1.weaken (fun _ q _ h => hF q.1 h)
      clear hP hD
      have hP := hP1
      have hD := hD2
      clear hP1 hD1 hD2 hK1 hk1 hz1 hF
      generalize H1 = H at hP hS ⊢
      refine lv_if_eq (tgt := 56) hx hb dX2_letsIn_45 (by decide) (fun c_45 => ?_) (fun c_45 => ?_)
      · replace hwp := hwp.1 c_45
        refine lv_iconst (v := 1) hx hb dX2_letsIn_56 (by decide) ?_
        refine lv_goto (tgt := 61) hx hb dX2_letsIn_57 (by decide) ?_
        exact W.zret (ty := .boolean) (v := 1) hx hb hr (isB_nar isB1) (fun t ht hW => ⟨⟨1, s7, rfl, hwp, by rw [ht]; exact hP, va_K.moved hW.alike hK, hD⟩, hS.F ht⟩) hS.2.2 dX2_letsIn_61
      · replace hwp := hwp.2 c_45
        refine lv_aload_n hx hb dX2_letsIn_48 rfl (lv_at hl 0 rfl) ?_
        refine lv_aload_n hx hb dX2_letsIn_49 rfl (lv_at hl 1 rfl) ?_
        have hF := fA hD hS hA
        refine va_calli (va_runV (As := [.ref (ad 5 a1)]) (rest := []) ⟨hx, hb, hml, hown, hts⟩ (c_X2_takesMark l dC dI cA ad n s7 j a1 H.size _ hwp) (cwV 1 hts gX2_letsIn_X2_takesMark rfl rfl rfl (by decide +kernel) ⟨Nat.le_of_ble_eq_true rfl, Nat.le_of_ble_eq_true rfl⟩) ⟨fbC, va_recv hK hP (ci := 2) (q0 := (7 + j)) rfl (atFlow hb_1), fun U hU hW => ⟨rfl, by rw [hU], by rw [hU]; exact hP, va_K.moved hW.alike hK, hD.weaken (fun _ _ _ _ => trivial)⟩⟩ rfl rfl hl.1 rfl (lv_room (Nat.le_of_ble_eq_true rfl)) dX2_letsIn_50 ⟨Nat.le_of_ble_eq_true rfl, Nat.le_of_ble_eq_true rfl⟩) hS (fun q _ h => hF q h) hF (fun r10 s9 t H1 locs ht hvm hwp hB hz1 hk1 hS => ?_)
        obtain ⟨hP1, hK1, hD1⟩ := hB
        rw [ht] at hP1
        have hD2 := hD1.weaken (fun _ q _ h => hF q.1 h)
        clear hP hD
        have hP := hP1
        have hD := hD2
        clear hP1 hD1 hD2 hK1 hk1 hz1 hF
        generalize H1 = H at hP hS ⊢
        refine lv_if_eq (tgt := 60) hx hb dX2_letsIn_53 (by decide) (fun c_53 => ?_) (fun c_53 => ?_)
        · replace hwp := hwp.1 c_53
          refine lv_iconst (v := 0) hx hb dX2_letsIn_60 (by decide) ?_
          exact W.zret (ty := .boolean) (v := 0) hx hb hr (isB_nar isB0) (fun t ht hW => ⟨⟨0, s9, rfl, hwp, by rw [ht]; exact hP, va_K.moved hW.alike hK, hD⟩, hS.F ht⟩) hS.2.2 dX2_letsIn_61
        · replace hwp := hwp.2 c_53
          refine lv_iconst (v := 1) hx hb dX2_letsIn_56 (by decide) ?_
          refine lv_goto (tgt := 61) hx hb dX2_letsIn_57 (by decide) ?_
          exact W.zret (ty := .boolean) (v := 1) hx hb hr (isB_nar isB1) (fun t ht hW => ⟨⟨1, s9, rfl, hwp, by rw [ht]; exact hP, va_K.moved hW.alike hK, hD⟩, hS.F ht⟩) hS.2.2 dX2_letsIn_61
    · replace hwp := hwp.2 c_32
      refine lv_iconst (v := 0) hx hb dX2_letsIn_35 (by decide) ?_
      exact W.zret (ty := .boolean) (v := 0) hx hb hr (isB_nar isB0) (fun t ht hW => ⟨⟨0, s5, rfl, hwp, by rw [ht]; exact hP, va_K.moved hW.alike hK, hD⟩, hS.F ht⟩) hS.2.2 dX2_letsIn_36
  · replace hwp := hwp.2 c_5
    refine lv_iconst (v := 1) hx hb dX2_letsIn_8 (by decide) ?_
    exact W.zret (ty := .boolean) (v := 1) hx hb hr (isB_nar isB1) (fun t ht hW => ⟨⟨1, σ, rfl, hwp, by rw [ht]; exact hP, va_K.moved hW.alike hK, hD⟩, hS.F ht⟩) hS.2.2 dX2_letsIn_9
def wp_X2_letsOut (n : Nat) (σ : ST) (j : Nat) (a1 : Nat) (a2 : Int32) (K : Int32 → ST → Prop) : Prop := j < 6 ∧
(((sI σ 36 j) = 2 → (a1 < n ∧
j < 6 ∧
((¬ (sI σ 98 j) = 0 → (j < 6 ∧
wp_X1_hits n σ j (sI σ 86 a1) a2 0 (fun r5 s4 =>
((r5 = 0 → (K 1 s4)) ∧ (¬ (r5 = 0) → (wp_X2_takesMark n s4 j a1 (fun r8 s7 =>
((r8 = 0 → (K 0 s7)) ∧ (¬ (r8 = 0) → (K 1 s7)))
))))
))) ∧ ((sI σ 98 j) = 0 → (j < 6 ∧
wp_X1_hits n σ j (sI σ 86 a1) a2 1 (fun r10 s9 =>
((r10 = 0 → (K 1 s9)) ∧ (¬ (r10 = 0) → (wp_X2_takesMark n s9 j a1 (fun r13 s12 =>
((r13 = 0 → (K 0 s12)) ∧ (¬ (r13 = 0) → (K 1 s12)))
))))
)))))) ∧ (¬ ((sI σ 36 j) = 2) → (K 1 σ)))
set_option maxRecDepth 20000 in
theorem iX2_letsOut_2 : ∀ w ∈ wsX20, w ∈ wsX2_letsOut := by decide +kernel
set_option maxRecDepth 20000 in
theorem iX2_letsOut_5 : ∀ w ∈ wsX50, w ∈ wsX2_letsOut := by decide +kernel
set_option maxRecDepth 20000 in
theorem iX2_letsOut_6 : ∀ w ∈ wsX60, w ∈ wsX2_letsOut := by decide +kernel
set_option maxHeartbeats 8000000 in
set_option maxRecDepth 100000 in
theorem c_X2_letsOut (l : Launch) (dC : Nat → ClassId) (dI : Nat → Nat → Nat) (cA : Nat → ClassId) (ad : Nat → Nat → Nat) (n : Nat) (σ : ST) (j : Nat) (a1 : Nat) (a2 : Int32) (sz : Nat) (K : Int32 → ST → Prop) (hwp : wp_X2_letsOut n σ j a1 a2 K) : Met l yX2_letsOut wsX2_letsOut ({ frames := 2, cells := 0, slots := 0, locals := 46 } : Room) (va_Pc [.ref (ad 2 j), .ref (ad 5 a1), .int a2] (preC dC dI cA (Wc cA ad n σ) sz)) (va_Qi K (atC dC dI cA (Wc cA ad n) (va_A (Wc cA ad n σ) sz)) (va_A (Wc cA ad n σ) sz)) 0 0 (va_A (Wc cA ad n σ) sz) := by
  refine Met.ofW (cc := cX2_letsOut) (maxL := 3) (ret := (some .boolean)) (by decide) rfl ?_
  intro p e s m args below meth c s₁ B hml hv
  obtain ⟨rfl, hsz, hP, hK, hD0⟩ := hv
  have hx := B.exec
  have hb := B.bytes
  have hr := B.returns
  have hts := atoms_spec (ws := wsX2_letsOut) B.pre
  have hown : s.vm.findClass RX2 = some m.cls := findClass_of_methodNamed B.named
  have hlocks := B.notSynchronized
  subst hsz
  have hD := hD0.self (sz := s.heap.size)
  clear hD0
  generalize hAe : va_A (Wc cA ad n σ) s.heap.size = A at hD ⊢
  have hA : ∀ q : Nat, s.heap.size ≤ q → A q := fun q h => by rw [← hAe]; exact Or.inr h
  have hS : va_S A s.heap s.heap [] := va_S.rf
  have hkc : 0 ≤ 0 := Nat.le_refl 0
  have hks : 0 ≤ 0 := Nat.le_refl 0
  have hl := lv_entry ([.ref (ad 2 j), .ref (ad 5 a1), .int a2]) (n := 3) (Nat.le_of_ble_eq_true rfl)
  rw [lg_entry_eq]
  generalize (lg_sl ([.ref (ad 2 j), .ref (ad 5 a1), .int a2]) ++ List.replicate (3 - (lg_sl ([.ref (ad 2 j), .ref (ad 5 a1), .int a2])).length) Slot.unset).toArray = ls at hl ⊢
  have hl : lv_has ls 3 [(0, .ref (ad 2 j)), (1, .ref (ad 5 a1)), (2, .int a2)] := hl
  unfold wp_X2_letsOut at hwp
  generalize hHe : s.heap = H at hP ⊢
  have hS : va_S A s.heap H [] := by rw [← hHe]; exact va_S.rf
  clear hHe
  refine lv_aload_n hx hb dX2_letsOut_0 rfl (lv_at hl 0 rfl) ?_
  obtain ⟨hb_1, hwp⟩ := hwp
  refine va_get (D := (dC, dI)) (ci := 2) (v := .int (sI σ 36 j)) (C := RX2) (T := TX2) (N := 15) hx hb hts iX2_letsOut_2 hown hK hP (7 + j) (atFlow hb_1) rfl 4 (by decide) (hts (.fieldLink RX2 32 "LinkQueues$Flow" "kind" "I") (by decide +kernel)) (fun _ h9 => h9) rfl dX2_letsOut_1 ?_
  refine lv_iconst (v := 2) hx hb dX2_letsOut_4 (by decide) ?_
  refine lv_icmp_eq (tgt := 10) hx hb dX2_letsOut_5 (by decide) (fun c_5 => ?_) (fun c_5 => ?_)
  · replace hwp := hwp.1 c_5
    refine lv_aload_n hx hb dX2_letsOut_10 rfl (lv_at hl 0 rfl) ?_
    refine va_get (D := (dC, dI)) (ci := 2) (v := .ref (ad 1 j)) (C := RX2) (T := TX2) (N := 15) hx hb hts iX2_letsOut_2 hown hK hP (7 + j) (atFlow hb_1) rfl 3 (by decide) (hts (.fieldLink RX2 28 "LinkQueues$Flow" "delay" "LLinkQueues$Delay;") (by decide +kernel)) (fun _ h9 => h9) rfl dX2_letsOut_11 ?_
    refine lv_aload_n hx hb dX2_letsOut_14 rfl (lv_at hl 1 rfl) ?_
    obtain ⟨hb_2, hwp⟩ := hwp
    refine va_get (D := (dC, dI)) (ci := 5) (v := .int (sI σ 86 a1)) (C := RX5) (T := TX5) (N := 8) hx hb hts iX2_letsOut_5 hown hK hP (31 + a1) (atPacket hb_2) rfl 6 (by decide) (hts (.fieldLink RX2 89 "LinkQueues$Packet" "wait" "I") (by decide +kernel)) (fun _ h9 => h9) rfl dX2_letsOut_15 ?_
    refine lv_iload_n hx hb dX2_letsOut_18 rfl (lv_at hl 2 rfl) ?_
    refine lv_aload_n hx hb dX2_letsOut_19 rfl (lv_at hl 0 rfl) ?_
    refine va_get (D := (dC, dI)) (ci := 2) (v := .ref (ad 6 j)) (C := RX2) (T := TX2) (N := 15) hx hb hts iX2_letsOut_2 hown hK hP (7 + j) (atFlow hb_1) rfl 1 (by decide) (hts (.fieldLink RX2 12 "LinkQueues$Flow" "queue" "LLinkQueues$Queue;") (by decide +kernel)) (fun _ h9 => h9) rfl dX2_letsOut_20 ?_
    obtain ⟨hb_3, hwp⟩ := hwp
    refine va_get (D := (dC, dI)) (ci := 6) (v := .int (sI σ 98 j)) (C := RX6) (T := TX6) (N := 4) hx hb hts iX2_letsOut_6 hown hK hP (13 + j) (atQueue hb_3) rfl 2 (by decide) (hts (.fieldLink RX2 70 "LinkQueues$Queue" "packets" "I") (by decide +kernel)) (fun _ h9 => h9) rfl dX2_letsOut_23 ?_
    refine lv_if_ne (tgt := 33) hx hb dX2_letsOut_26 (by decide) (fun c_26 => ?_) (fun c_26 => ?_)
    · replace hwp := hwp.1 c_26
      refine lv_iconst (v := 0) hx hb dX2_letsOut_33 (by decide) ?_
      obtain ⟨hb_6, hwp⟩ := hwp
      have hF := fA hD hS hA
      refine va_calli (va_runV (As := [.int (sI σ 86 a1), .int a2, .int 0]) (rest := []) ⟨hx, hb, hml, hown, hts⟩ (c_X1_hits l dC dI cA ad n σ j (sI σ 86 a1) a2 0 H.size _ hwp) (cwV 3 hts gX2_letsOut_X1_hits rfl rfl rfl (by decide +kernel) ⟨Nat.le_of_ble_eq_true rfl, Nat.le_of_ble_eq_true rfl⟩) ⟨fbC, va_recv hK hP (ci := 1) (q0 := (25 + j)) rfl (atDelay hb_6), fun U hU hW => ⟨rfl, by rw [hU], by rw [hU]; exact hP, va_K.moved hW.alike hK, hD.weaken (fun _ _ _ _ => trivial)⟩⟩ rfl rfl hl.1 rfl (lv_room (Nat.le_of_ble_eq_true rfl)) dX2_letsOut_34 ⟨Nat.le_of_ble_eq_true rfl, Nat.le_of_ble_eq_true rfl⟩) hS (fun q _ h => hF q h) hF (fun r5 s4 t H1 locs ht hvm hwp hB hz1 hk1 hS => ?_)
      obtain ⟨hP1, hK1, hD1⟩ := hB
      rw [ht] at hP1
      have hD2 := hD1.weaken (fun _ q _ h => hF q.1 h)
      clear hP hD
      have hP := hP1
      have hD := hD2
      clear hP1 hD1 hD2 hK1 hk1 hz1 hF
      generalize H1 = H at hP hS ⊢
      refine lv_if_eq (tgt := 48) hx hb dX2_letsOut_37 (by decide) (fun c_37 => ?_) (fun c_37 => ?_)
      · replace hwp := hwp.1 c_37
        refine lv_iconst (v := 1) hx hb dX2_letsOut_48 (by decide) ?_
        refine lv_goto (tgt := 53) hx hb dX2_letsOut_49 (by decide) ?_
        exact W.zret (ty := .boolean) (v := 1) hx hb hr (isB_nar isB1) (fun t ht hW => ⟨⟨1, s4, rfl, hwp, by rw [ht]; exact hP, va_K.moved hW.alike hK, hD⟩, hS.F ht⟩) hS.2.2 dX2_letsOut_53
      · replace hwp := hwp.2 c_37
        refine lv_aload_n hx hb dX2_letsOut_40 rfl (lv_at hl 0 rfl) ?_
        refine lv_aload_n hx hb dX2_letsOut_41 rfl (lv_at hl 1 rfl) ?_
        have hF := fA hD hS hA
        refine va_calli (va_runV (As := [.ref (ad 5 a1)]) (rest := []) ⟨hx, hb, hml, hown, hts⟩ (c_X2_takesMark l dC dI cA ad n s4 j a1 H.size _ hwp) (cwV 1 hts gX2_letsOut_X2_takesMark rfl rfl rfl (by decide +kernel) ⟨Nat.le_of_ble_eq_true rfl, Nat.le_of_ble_eq_true rfl⟩) ⟨fbC, va_recv hK hP (ci := 2) (q0 := (7 + j)) rfl (atFlow hb_1), fun U hU hW => ⟨rfl, by rw [hU], by rw [hU]; exact hP, va_K.moved hW.alike hK, hD.weaken (fun _ _ _ _ => trivial)⟩⟩ rfl rfl hl.1 rfl (lv_room (Nat.le_of_ble_eq_true rfl)) dX2_letsOut_42 ⟨Nat.le_of_ble_eq_true rfl, Nat.le_of_ble_eq_true rfl⟩) hS (fun q _ h => hF q h) hF (fun r8 s7 t H1 locs ht hvm hwp hB hz1 hk1 hS => ?_)
        obtain ⟨hP1, hK1, hD1⟩ := hB
        rw [ht] at hP1
        have hD2 := hD1.weaken (fun _ q _ h => hF q.1 h)
        clear hP hD
        have hP := hP1
        have hD := hD2
        clear hP1 hD1 hD2 hK1 hk1 hz1 hF
        generalize H1 = H at hP hS ⊢
        refine lv_if_eq (tgt := 52) hx hb dX2_letsOut_45 (by decide) (fun c_45 => ?_) (fun c_45 => ?_)
        · replace hwp := hwp.1 c_45
          refine lv_iconst (v := 0) hx hb dX2_letsOut_52 (by decide) ?_
          exact W.zret (ty := .boolean) (v := 0) hx hb hr (isB_nar isB0) (fun t ht hW => ⟨⟨0, s7, rfl, hwp, by rw [ht]; exact hP, va_K.moved hW.alike hK, hD⟩, hS.F ht⟩) hS.2.2 dX2_letsOut_53
        · replace hwp := hwp.2 c_45
          refine lv_iconst (v := 1) hx hb dX2_letsOut_48 (by decide) ?_
          refine lv_goto (tgt := 53) hx hb dX2_letsOut_49 (by decide) ?_
          exact W.zret (ty := .boolean) (v := 1) hx hb hr (isB_nar isB1) (fun t ht hW => ⟨⟨1, s7, rfl, hwp, by rw [ht]; exact hP, va_K.moved hW.alike hK, hD⟩, hS.F ht⟩) hS.2.2 dX2_letsOut_53
    · replace hwp := hwp.2 c_26
      refine lv_iconst (v := 1) hx hb dX2_letsOut_29 (by decide) ?_
      refine lv_goto (tgt := 34) hx hb dX2_letsOut_30 (by decide) ?_
      obtain ⟨hb_11, hwp⟩ := hwp
      have hF := fA hD hS hA
      refine va_calli (va_runV (As := [.int (sI σ 86 a1), .int a2, .int 1]) (rest := []) ⟨hx, hb, hml, hown, hts⟩ (c_X1_hits l dC dI cA ad n σ j (sI σ 86 a1) a2 1 H.size _ hwp) (cwV 3 hts gX2_letsOut_X1_hits rfl rfl rfl (by decide +kernel) ⟨Nat.le_of_ble_eq_true rfl, Nat.le_of_ble_eq_true rfl⟩) ⟨fbC, va_recv hK hP (ci := 1) (q0 := (25 + j)) rfl (atDelay hb_11), fun U hU hW => ⟨rfl, by rw [hU], by rw [hU]; exact hP, va_K.moved hW.alike hK, hD.weaken (fun _ _ _ _ => trivial)⟩⟩ rfl rfl hl.1 rfl (lv_room (Nat.le_of_ble_eq_true rfl)) dX2_letsOut_34 ⟨Nat.le_of_ble_eq_true rfl, Nat.le_of_ble_eq_true rfl⟩) hS (fun q _ h => hF q h) hF (fun r10 s9 t H1 locs ht hvm hwp hB hz1 hk1 hS => ?_)
      obtain ⟨hP1, hK1, hD1⟩ := hB
      rw [ht] at hP1
      have hD2 := hD1.weaken (fun _ q _ h => hF q.1 h)
      clear hP hD
      have hP := hP1
      have hD := hD2
      clear hP1 hD1 hD2 hK1 hk1 hz1 hF
      generalize H1 = H at hP hS ⊢
      refine lv_if_eq (tgt := 48) hx hb dX2_letsOut_37 (by decide) (fun c_37 => ?_) (fun c_37 => ?_)
      · replace hwp := hwp.1 c_37
        refine lv_iconst (v := 1) hx hb dX2_letsOut_48 (by decide) ?_
        refine lv_goto (tgt := 53) hx hb dX2_letsOut_49 (by decide) ?_
        exact W.zret (ty := .boolean) (v := 1) hx hb hr (isB_nar isB1) (fun t ht hW => ⟨⟨1, s9, rfl, hwp, by rw [ht]; exact hP, va_K.moved hW.alike hK, hD⟩, hS.F ht⟩) hS.2.2 dX2_letsOut_53
      · replace hwp := hwp.2 c_37
        refine lv_aload_n hx hb dX2_letsOut_40 rfl (lv_at hl 0 rfl) ?_
        refine lv_aload_n hx hb dX2_letsOut_41 rfl (lv_at hl 1 rfl) ?_
        have hF := fA hD hS hA
        refine va_calli (va_runV (As := [.ref (ad 5 a1)]) (rest := []) ⟨hx, hb, hml, hown, hts⟩ (c_X2_takesMark l dC dI cA ad n s9 j a1 H.size _ hwp) (cwV 1 hts gX2_letsOut_X2_takesMark rfl rfl rfl (by decide +kernel) ⟨Nat.le_of_ble_eq_true rfl, Nat.le_of_ble_eq_true rfl⟩) ⟨fbC, va_recv hK hP (ci := 2) (q0 := (7 + j)) rfl (atFlow hb_1), fun U hU hW => ⟨rfl, by rw [hU], by rw [hU]; exact hP, va_K.moved hW.alike hK, hD.weaken (fun _ _ _ _ => trivial)⟩⟩ rfl rfl hl.1 rfl (lv_room (Nat.le_of_ble_eq_true rfl)) dX2_letsOut_42 ⟨Nat.le_of_ble_eq_true rfl, Nat.le_of_ble_eq_true rfl⟩) hS (fun q _ h => hF q h) hF (fun r13 s12 t H1 locs ht hvm hwp hB hz1 hk1 hS => ?_)
        obtain ⟨hP1, hK1, hD1⟩ := hB
        rw [ht] at hP1
        have hD2 := hD1.weaken (fun _ q _ h => hF q.1 h)
        clear hP hD
        have hP := hP1
        have hD := hD2
        clear hP1 hD1 hD2 hK1 hk1 hz1 hF
        generalize H1 = H at hP hS ⊢
        refine lv_if_eq (tgt := 52) hx hb dX2_letsOut_45 (by decide) (fun c_45 => ?_) (fun c_45 => ?_)
        · replace hwp := hwp.1 c_45
          refine lv_iconst (v := 0) hx hb dX2_letsOut_52 (by decide) ?_
          exact W.zret (ty := .boolean) (v := 0) hx hb hr (isB_nar isB0) (fun t ht hW => ⟨⟨0, s12, rfl, hwp, by rw [ht]; exact hP, va_K.moved hW.alike hK, hD⟩, hS.F ht⟩) hS.2.2 dX2_letsOut_53
        · replace hwp := hwp.2 c_45
          refine lv_iconst (v := 1) hx hb dX2_letsOut_48 (by decide) ?_
          refine lv_goto (tgt := 53) hx hb dX2_letsOut_49 (by decide) ?_
          exact W.zret (ty := .boolean) (v := 1) hx hb hr (isB_nar isB1) (fun t ht hW => ⟨⟨1, s12, rfl, hwp, by rw [ht]; exact hP, va_K.moved hW.alike hK, hD⟩, hS.F ht⟩) hS.2.2 dX2_letsOut_53
  · replace hwp := hwp.2 c_5
    refine lv_iconst (v := 1) hx hb dX2_letsOut_8 (by decide) ?_
    exact W.zret (ty := .boolean) (v := 1) hx hb hr (isB_nar isB1) (fun t ht hW => ⟨⟨1, σ, rfl, hwp, by rw [ht]; exact hP, va_K.moved hW.alike hK, hD⟩, hS.F ht⟩) hS.2.2 dX2_letsOut_9
