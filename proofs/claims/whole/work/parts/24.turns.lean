def wp_X7_join (n : Nat) (σ : ST) (a1 : Nat) (K : ST → Prop) : Prop := (((sR σ 113 0) = none → (∀ s3, s3 = upR σ 112 0 (some a1) →
∀ s4, s4 = upR s3 113 0 (some a1) →
K s4)) ∧ (∀ b_1, (sR σ 113 0) = some b_1 → (∃ b_5, (sR σ 113 0) = some b_5 ∧
b_5 < 6 ∧
∀ s8, s8 = upR σ 39 b_5 (some a1) →
∀ s9, s9 = upR s8 113 0 (some a1) →
K s9)))
set_option maxRecDepth 20000 in
theorem iX7_join_7 : ∀ w ∈ wsX70, w ∈ wsX7_join := by decide +kernel
set_option maxRecDepth 20000 in
theorem iX7_join_2 : ∀ w ∈ wsX20, w ∈ wsX7_join := by decide +kernel
set_option maxHeartbeats 8000000 in
set_option maxRecDepth 100000 in
theorem c_X7_join (l : Launch) (dC : Nat → ClassId) (dI : Nat → Nat → Nat) (cA : Nat → ClassId) (ad : Nat → Nat → Nat) (n : Nat) (σ : ST) (a1 : Nat) (sz : Nat) (K : ST → Prop) (hwp : wp_X7_join n σ a1 K) : Met l yX7_join wsX7_join ({ frames := 0, cells := 0, slots := 0, locals := 0 } : Room) (va_Pc [.ref (ad 7 0), .ref (ad 2 a1)] (preC dC dI cA (Wc cA ad n σ) sz)) (va_Qv K (atC dC dI cA (Wc cA ad n) (va_A (Wc cA ad n σ) sz)) (va_A (Wc cA ad n σ) sz)) 0 0 (va_A (Wc cA ad n σ) sz) := by
  refine Met.ofW (cc := cX7_join) (maxL := 2) (ret := none) (by decide) rfl ?_
  intro p e s m args below meth c s₁ B hml hv
  obtain ⟨rfl, hsz, hP, hK, hD0⟩ := hv
  have hx := B.exec
  have hb := B.bytes
  have hr := B.returns
  have hts := atoms_spec (ws := wsX7_join) B.pre
  have hown : s.vm.findClass RX7 = some m.cls := findClass_of_methodNamed B.named
  have hlocks := B.notSynchronized
  subst hsz
  have hD := hD0.self (sz := s.heap.size)
  clear hD0
  generalize hAe : va_A (Wc cA ad n σ) s.heap.size = A at hD ⊢
  have hA : ∀ q : Nat, s.heap.size ≤ q → A q := fun q h => by rw [← hAe]; exact Or.inr h
  have hS : va_S A s.heap s.heap [] := va_S.rf
  have hkc : 0 ≤ 0 := Nat.le_refl 0
  have hks : 0 ≤ 0 := Nat.le_refl 0
  have hl := lv_entry ([.ref (ad 7 0), .ref (ad 2 a1)]) (n := 2) (Nat.le_of_ble_eq_true rfl)
  rw [lg_entry_eq]
  generalize (lg_sl ([.ref (ad 7 0), .ref (ad 2 a1)]) ++ List.replicate (2 - (lg_sl ([.ref (ad 7 0), .ref (ad 2 a1)])).length) Slot.unset).toArray = ls at hl ⊢
  have hl : lv_has ls 2 [(0, .ref (ad 7 0)), (1, .ref (ad 2 a1))] := hl
  unfold wp_X7_join at hwp
  generalize hHe : s.heap = H at hP ⊢
  have hS : va_S A s.heap H [] := by rw [← hHe]; exact va_S.rf
  clear hHe
  refine lv_aload_n hx hb dX7_join_0 rfl (lv_at hl 0 rfl) ?_
  refine va_get (D := (dC, dI)) (ci := 7) (v := va_re (ad 2) (sR σ 113 0)) (C := RX7) (T := TX7) (N := 3) hx hb hts iX7_join_7 hown hK hP 2 atTurns rfl 1 (by decide) (hts (.fieldLink RX7 13 "LinkQueues$Turns" "last" "LLinkQueues$Flow;") (by decide +kernel)) (fun _ h9 => h9) rfl dX7_join_1 ?_
  refine q_ifnonnull (tgt := 15) hx hb dX7_join_4 (by decide) (fun b_1 ho_2 => ?_) (fun ho_2 => ?_)
  · replace hwp := hwp.2 b_1 ho_2
    refine lv_aload_n hx hb dX7_join_15 rfl (lv_at hl 0 rfl) ?_
    refine va_get (D := (dC, dI)) (ci := 7) (v := va_re (ad 2) (sR σ 113 0)) (C := RX7) (T := TX7) (N := 3) hx hb hts iX7_join_7 hown hK hP 2 atTurns rfl 1 (by decide) (hts (.fieldLink RX7 13 "LinkQueues$Turns" "last" "LLinkQueues$Flow;") (by decide +kernel)) (fun _ h9 => h9) rfl dX7_join_16 ?_
    refine lv_aload_n hx hb dX7_join_19 rfl (lv_at hl 1 rfl) ?_
    obtain ⟨b_5, ho_6, hwp⟩ := hwp
    rw [ho_6]
    obtain ⟨hb_7, hwp⟩ := hwp
    obtain ⟨s8, e_s8⟩ : ∃ z, z = upR σ 39 b_5 (some a1) := ⟨_, rfl⟩
    refine st_put (D := (dC, dI)) (ci := 2) (v := va_re (ad 2) (some a1)) (ty := (.object "LinkQueues$Flow")) (C := RX2) (T := TX2) (N := 15) (ws' := Wc cA ad n s8) hx hb hts iX7_join_2 tyX2 tyX2_ok nmX2 hown hK hP hD hS (7 + b_5) (atFlow hb_7) rfl 7 (by decide) (hts (.fieldLink RX7 20 "LinkQueues$Flow" "behind" "LLinkQueues$Flow;") (by decide +kernel)) (fun _ h9 => h9) rfl (by decide +kernel) (nar_re _ (ad 2) (some a1)) (fits_re _ (ad 2) (some a1)) (Nat.le_of_ble_eq_true rfl) dX7_join_20 (by rw [e_s8]; exact stFlow_7 hb_7 (some a1)) (fun H locs hP hD hS => ?_)
    replace hwp := hwp s8 e_s8
    refine lv_aload_n hx hb dX7_join_23 rfl (lv_at hl 0 rfl) ?_
    refine lv_aload_n hx hb dX7_join_24 rfl (lv_at hl 1 rfl) ?_
    obtain ⟨s9, e_s9⟩ : ∃ z, z = upR s8 113 0 (some a1) := ⟨_, rfl⟩
    refine st_put (D := (dC, dI)) (ci := 7) (v := va_re (ad 2) (some a1)) (ty := (.object "LinkQueues$Flow")) (C := RX7) (T := TX7) (N := 3) (ws' := Wc cA ad n s9) hx hb hts iX7_join_7 tyX7 tyX7_ok nmX7 hown hK hP hD hS 2 atTurns rfl 1 (by decide) (hts (.fieldLink RX7 13 "LinkQueues$Turns" "last" "LLinkQueues$Flow;") (by decide +kernel)) (fun _ h9 => h9) rfl (by decide +kernel) (nar_re _ (ad 2) (some a1)) (fits_re _ (ad 2) (some a1)) (Nat.le_of_ble_eq_true rfl) dX7_join_25 (by rw [e_s9]; exact stTurns_1 (some a1)) (fun H locs hP hD hS => ?_)
    replace hwp := hwp s9 e_s9
    exact W.vret hx hb hr (fun t ht hW => ⟨⟨s9, rfl, hwp, by rw [ht]; exact hP, va_K.moved hW.alike hK, hD⟩, hS.F ht⟩) hS.2.2 dX7_join_28
  · replace hwp := hwp.1 ho_2
    refine lv_aload_n hx hb dX7_join_7 rfl (lv_at hl 0 rfl) ?_
    refine lv_aload_n hx hb dX7_join_8 rfl (lv_at hl 1 rfl) ?_
    obtain ⟨s3, e_s3⟩ : ∃ z, z = upR σ 112 0 (some a1) := ⟨_, rfl⟩
    refine st_put (D := (dC, dI)) (ci := 7) (v := va_re (ad 2) (some a1)) (ty := (.object "LinkQueues$Flow")) (C := RX7) (T := TX7) (N := 3) (ws' := Wc cA ad n s3) hx hb hts iX7_join_7 tyX7 tyX7_ok nmX7 hown hK hP hD hS 2 atTurns rfl 0 (by decide) (hts (.fieldLink RX7 7 "LinkQueues$Turns" "first" "LLinkQueues$Flow;") (by decide +kernel)) (fun _ h9 => h9) rfl (by decide +kernel) (nar_re _ (ad 2) (some a1)) (fits_re _ (ad 2) (some a1)) (Nat.le_of_ble_eq_true rfl) dX7_join_9 (by rw [e_s3]; exact stTurns_0 (some a1)) (fun H locs hP hD hS => ?_)
    replace hwp := hwp s3 e_s3
    refine lv_goto (tgt := 23) hx hb dX7_join_12 (by decide) ?_
    refine lv_aload_n hx hb dX7_join_23 rfl (lv_at hl 0 rfl) ?_
    refine lv_aload_n hx hb dX7_join_24 rfl (lv_at hl 1 rfl) ?_
    obtain ⟨s4, e_s4⟩ : ∃ z, z = upR s3 113 0 (some a1) := ⟨_, rfl⟩
    refine st_put (D := (dC, dI)) (ci := 7) (v := va_re (ad 2) (some a1)) (ty := (.object "LinkQueues$Flow")) (C := RX7) (T := TX7) (N := 3) (ws' := Wc cA ad n s4) hx hb hts iX7_join_7 tyX7 tyX7_ok nmX7 hown hK hP hD hS 2 atTurns rfl 1 (by decide) (hts (.fieldLink RX7 13 "LinkQueues$Turns" "last" "LLinkQueues$Flow;") (by decide +kernel)) (fun _ h9 => h9) rfl (by decide +kernel) (nar_re _ (ad 2) (some a1)) (fits_re _ (ad 2) (some a1)) (Nat.le_of_ble_eq_true rfl) dX7_join_25 (by rw [e_s4]; exact stTurns_1 (some a1)) (fun H locs hP hD hS => ?_)
    replace hwp := hwp s4 e_s4
    exact W.vret hx hb hr (fun t ht hW => ⟨⟨s4, rfl, hwp, by rw [ht]; exact hP, va_K.moved hW.alike hK, hD⟩, hS.F ht⟩) hS.2.2 dX7_join_28
def wp_X7_begin (n : Nat) (σ : ST) (K : ST → Prop) : Prop := (((sR σ 112 0) = none → (K σ)) ∧ (∀ b_1, (sR σ 112 0) = some b_1 → (((¬ (sI σ 114 0) = 0 → (K σ)) ∧ ((sI σ 114 0) = 0 → (∃ b_3, (sR σ 112 0) = some b_3 ∧
b_3 < 6 ∧
∃ b_6, (sR σ 112 0) = some b_6 ∧
b_6 < 6 ∧
∀ s9, s9 = upI σ 38 b_3 ((sI σ 38 b_3) + (sI σ 37 b_6)) →
∀ s10, s10 = upI s9 114 0 1 →
K s10))))))
set_option maxRecDepth 20000 in
theorem iX7_begin_7 : ∀ w ∈ wsX70, w ∈ wsX7_begin := by decide +kernel
set_option maxRecDepth 20000 in
theorem iX7_begin_2 : ∀ w ∈ wsX20, w ∈ wsX7_begin := by decide +kernel
set_option maxHeartbeats 8000000 in
set_option maxRecDepth 100000 in
theorem c_X7_begin (l : Launch) (dC : Nat → ClassId) (dI : Nat → Nat → Nat) (cA : Nat → ClassId) (ad : Nat → Nat → Nat) (n : Nat) (σ : ST) (sz : Nat) (K : ST → Prop) (hwp : wp_X7_begin n σ K) : Met l yX7_begin wsX7_begin ({ frames := 0, cells := 0, slots := 0, locals := 0 } : Room) (va_Pc [.ref (ad 7 0)] (preC dC dI cA (Wc cA ad n σ) sz)) (va_Qv K (atC dC dI cA (Wc cA ad n) (va_A (Wc cA ad n σ) sz)) (va_A (Wc cA ad n σ) sz)) 0 0 (va_A (Wc cA ad n σ) sz) := by
  refine Met.ofW (cc := cX7_begin) (maxL := 1) (ret := none) (by decide) rfl ?_
  intro p e s m args below meth c s₁ B hml hv
  obtain ⟨rfl, hsz, hP, hK, hD0⟩ := hv
  have hx := B.exec
  have hb := B.bytes
  have hr := B.returns
  have hts := atoms_spec (ws := wsX7_begin) B.pre
  have hown : s.vm.findClass RX7 = some m.cls := findClass_of_methodNamed B.named
  have hlocks := B.notSynchronized
  subst hsz
  have hD := hD0.self (sz := s.heap.size)
  clear hD0
  generalize hAe : va_A (Wc cA ad n σ) s.heap.size = A at hD ⊢
  have hA : ∀ q : Nat, s.heap.size ≤ q → A q := fun q h => by rw [← hAe]; exact Or.inr h
  have hS : va_S A s.heap s.heap [] := va_S.rf
  have hkc : 0 ≤ 0 := Nat.le_refl 0
  have hks : 0 ≤ 0 := Nat.le_refl 0
  have hl := lv_entry ([.ref (ad 7 0)]) (n := 1) (Nat.le_of_ble_eq_true rfl)
  rw [lg_entry_eq]
  generalize (lg_sl ([.ref (ad 7 0)]) ++ List.replicate (1 - (lg_sl ([.ref (ad 7 0)])).length) Slot.unset).toArray = ls at hl ⊢
  have hl : lv_has ls 1 [(0, .ref (ad 7 0))] := hl
  unfold wp_X7_begin at hwp
  generalize hHe : s.heap = H at hP ⊢
  have hS : va_S A s.heap H [] := by rw [← hHe]; exact va_S.rf
  clear hHe
  refine lv_aload_n hx hb dX7_begin_0 rfl (lv_at hl 0 rfl) ?_
  refine va_get (D := (dC, dI)) (ci := 7) (v := va_re (ad 2) (sR σ 112 0)) (C := RX7) (T := TX7) (N := 3) hx hb hts iX7_begin_7 hown hK hP 2 atTurns rfl 0 (by decide) (hts (.fieldLink RX7 7 "LinkQueues$Turns" "first" "LLinkQueues$Flow;") (by decide +kernel)) (fun _ h9 => h9) rfl dX7_begin_1 ?_
  refine q_ifnull (tgt := 38) hx hb dX7_begin_4 (by decide) (fun ho_2 => ?_) (fun b_1 ho_2 => ?_)
  · replace hwp := hwp.1 ho_2
    exact W.vret hx hb hr (fun t ht hW => ⟨⟨σ, rfl, hwp, by rw [ht]; exact hP, va_K.moved hW.alike hK, hD⟩, hS.F ht⟩) hS.2.2 dX7_begin_38
  · replace hwp := hwp.2 b_1 ho_2
    refine lv_aload_n hx hb dX7_begin_7 rfl (lv_at hl 0 rfl) ?_
    refine va_get (D := (dC, dI)) (ci := 7) (v := .int (sI σ 114 0)) (C := RX7) (T := TX7) (N := 3) hx hb hts iX7_begin_7 hown hK hP 2 atTurns rfl 2 (by decide) (hts (.fieldLink RX7 16 "LinkQueues$Turns" "begun" "Z") (by decide +kernel)) (fun _ h9 => h9) rfl dX7_begin_8 ?_
    refine lv_if_ne (tgt := 38) hx hb dX7_begin_11 (by decide) (fun c_11 => ?_) (fun c_11 => ?_)
    · replace hwp := hwp.1 c_11
      exact W.vret hx hb hr (fun t ht hW => ⟨⟨σ, rfl, hwp, by rw [ht]; exact hP, va_K.moved hW.alike hK, hD⟩, hS.F ht⟩) hS.2.2 dX7_begin_38
    · replace hwp := hwp.2 c_11
      refine lv_aload_n hx hb dX7_begin_14 rfl (lv_at hl 0 rfl) ?_
      refine va_get (D := (dC, dI)) (ci := 7) (v := va_re (ad 2) (sR σ 112 0)) (C := RX7) (T := TX7) (N := 3) hx hb hts iX7_begin_7 hown hK hP 2 atTurns rfl 0 (by decide) (hts (.fieldLink RX7 7 "LinkQueues$Turns" "first" "LLinkQueues$Flow;") (by decide +kernel)) (fun _ h9 => h9) rfl dX7_begin_15 ?_
      refine lv_dup hx hb dX7_begin_18 (cat_re _ _) ?_
      obtain ⟨b_3, ho_4, hwp⟩ := hwp
      rw [ho_4]
      obtain ⟨hb_5, hwp⟩ := hwp
      refine va_get (D := (dC, dI)) (ci := 2) (v := .int (sI σ 38 b_3)) (C := RX2) (T := TX2) (N := 15) hx hb hts iX7_begin_2 hown hK hP (7 + b_3) (atFlow hb_5) rfl 6 (by decide) (hts (.fieldLink RX7 25 "LinkQueues$Flow" "deficit" "I") (by decide +kernel)) (fun _ h9 => h9) rfl dX7_begin_19 ?_
      refine lv_aload_n hx hb dX7_begin_22 rfl (lv_at hl 0 rfl) ?_
      refine va_get (D := (dC, dI)) (ci := 7) (v := va_re (ad 2) (sR σ 112 0)) (C := RX7) (T := TX7) (N := 3) hx hb hts iX7_begin_7 hown hK hP 2 atTurns rfl 0 (by decide) (hts (.fieldLink RX7 7 "LinkQueues$Turns" "first" "LLinkQueues$Flow;") (by decide +kernel)) (fun _ h9 => h9) rfl dX7_begin_23 ?_
      obtain ⟨b_6, ho_7, hwp⟩ := hwp
      rw [ho_7]
      obtain ⟨hb_8, hwp⟩ := hwp
      refine va_get (D := (dC, dI)) (ci := 2) (v := .int (sI σ 37 b_6)) (C := RX2) (T := TX2) (N := 15) hx hb hts iX7_begin_2 hown hK hP (7 + b_6) (atFlow hb_8) rfl 5 (by decide) (hts (.fieldLink RX7 29 "LinkQueues$Flow" "quantum" "I") (by decide +kernel)) (fun _ h9 => h9) rfl dX7_begin_26 ?_
      refine lv_iadd hx hb dX7_begin_29 ?_
      obtain ⟨s9, e_s9⟩ : ∃ z, z = upI σ 38 b_3 ((sI σ 38 b_3) + (sI σ 37 b_6)) := ⟨_, rfl⟩
      refine st_put (D := (dC, dI)) (ci := 2) (v := .int ((sI σ 38 b_3) + (sI σ 37 b_6))) (ty := .int) (C := RX2) (T := TX2) (N := 15) (ws' := Wc cA ad n s9) hx hb hts iX7_begin_2 tyX2 tyX2_ok nmX2 hown hK hP hD hS (7 + b_3) (atFlow hb_5) rfl 6 (by decide) (hts (.fieldLink RX7 25 "LinkQueues$Flow" "deficit" "I") (by decide +kernel)) (fun _ h9 => h9) rfl (by decide +kernel) rfl rfl (Nat.le_of_ble_eq_true rfl) dX7_begin_30 (by rw [e_s9]; exact stFlow_6 hb_5 ((sI σ 38 b_3) + (sI σ 37 b_6))) (fun H locs hP hD hS => ?_)
      replace hwp := hwp s9 e_s9
      refine lv_aload_n hx hb dX7_begin_33 rfl (lv_at hl 0 rfl) ?_
      refine lv_iconst (v := 1) hx hb dX7_begin_34 (by decide) ?_
      obtain ⟨s10, e_s10⟩ : ∃ z, z = upI s9 114 0 1 := ⟨_, rfl⟩
      refine st_put (D := (dC, dI)) (ci := 7) (v := .int 1) (ty := .boolean) (C := RX7) (T := TX7) (N := 3) (ws' := Wc cA ad n s10) hx hb hts iX7_begin_7 tyX7 tyX7_ok nmX7 hown hK hP hD hS 2 atTurns rfl 2 (by decide) (hts (.fieldLink RX7 16 "LinkQueues$Turns" "begun" "Z") (by decide +kernel)) (fun _ h9 => h9) rfl (by decide +kernel) rfl rfl (Nat.le_of_ble_eq_true rfl) dX7_begin_35 (by rw [e_s10]; exact stTurns_2 1) (fun H locs hP hD hS => ?_)
      replace hwp := hwp s10 e_s10
      exact W.vret hx hb hr (fun t ht hW => ⟨⟨s10, rfl, hwp, by rw [ht]; exact hP, va_K.moved hW.alike hK, hD⟩, hS.F ht⟩) hS.2.2 dX7_begin_38
def wp_X7_takeFirst (n : Nat) (σ : ST) (K : Option Nat → ST → Prop) : Prop := (((sR σ 112 0) = none → (K none σ)) ∧ (∀ b_1, (sR σ 112 0) = some b_1 → (b_1 < 6 ∧
∀ s4, s4 = upR σ 112 0 (sR σ 39 b_1) →
(((sR s4 112 0) = none → (∀ s7, s7 = upR s4 113 0 none →
∀ s8, s8 = upR s7 39 b_1 none →
∀ s9, s9 = upI s8 114 0 0 →
K (some b_1) s9)) ∧ (∀ b_5, (sR s4 112 0) = some b_5 → (∀ s10, s10 = upR s4 39 b_1 none →
∀ s11, s11 = upI s10 114 0 0 →
K (some b_1) s11))))))
set_option maxRecDepth 20000 in
theorem iX7_takeFirst_7 : ∀ w ∈ wsX70, w ∈ wsX7_takeFirst := by decide +kernel
set_option maxRecDepth 20000 in
theorem iX7_takeFirst_2 : ∀ w ∈ wsX20, w ∈ wsX7_takeFirst := by decide +kernel
set_option maxHeartbeats 8000000 in
set_option maxRecDepth 100000 in
theorem c_X7_takeFirst (l : Launch) (dC : Nat → ClassId) (dI : Nat → Nat → Nat) (cA : Nat → ClassId) (ad : Nat → Nat → Nat) (n : Nat) (σ : ST) (sz : Nat) (K : Option Nat → ST → Prop) (hwp : wp_X7_takeFirst n σ K) : Met l yX7_takeFirst wsX7_takeFirst ({ frames := 0, cells := 0, slots := 0, locals := 0 } : Room) (va_Pc [.ref (ad 7 0)] (preC dC dI cA (Wc cA ad n σ) sz)) (va_Qe (ad 2) K (atC dC dI cA (Wc cA ad n) (va_A (Wc cA ad n σ) sz)) (va_A (Wc cA ad n σ) sz)) 0 0 (va_A (Wc cA ad n σ) sz) := by
  refine Met.ofW (cc := cX7_takeFirst) (maxL := 2) (ret := (some (.object "LinkQueues$Flow"))) (by decide) rfl ?_
  intro p e s m args below meth c s₁ B hml hv
  obtain ⟨rfl, hsz, hP, hK, hD0⟩ := hv
  have hx := B.exec
  have hb := B.bytes
  have hr := B.returns
  have hts := atoms_spec (ws := wsX7_takeFirst) B.pre
  have hown : s.vm.findClass RX7 = some m.cls := findClass_of_methodNamed B.named
  have hlocks := B.notSynchronized
  subst hsz
  have hD := hD0.self (sz := s.heap.size)
  clear hD0
  generalize hAe : va_A (Wc cA ad n σ) s.heap.size = A at hD ⊢
  have hA : ∀ q : Nat, s.heap.size ≤ q → A q := fun q h => by rw [← hAe]; exact Or.inr h
  have hS : va_S A s.heap s.heap [] := va_S.rf
  have hkc : 0 ≤ 0 := Nat.le_refl 0
  have hks : 0 ≤ 0 := Nat.le_refl 0
  have hl := lv_entry ([.ref (ad 7 0)]) (n := 2) (Nat.le_of_ble_eq_true rfl)
  rw [lg_entry_eq]
  generalize (lg_sl ([.ref (ad 7 0)]) ++ List.replicate (2 - (lg_sl ([.ref (ad 7 0)])).length) Slot.unset).toArray = ls at hl ⊢
  have hl : lv_has ls 2 [(0, .ref (ad 7 0))] := hl
  unfold wp_X7_takeFirst at hwp
  generalize hHe : s.heap = H at hP ⊢
  have hS : va_S A s.heap H [] := by rw [← hHe]; exact va_S.rf
  clear hHe
  refine lv_aload_n hx hb dX7_takeFirst_0 rfl (lv_at hl 0 rfl) ?_
  refine va_get (D := (dC, dI)) (ci := 7) (v := va_re (ad 2) (sR σ 112 0)) (C := RX7) (T := TX7) (N := 3) hx hb hts iX7_takeFirst_7 hown hK hP 2 atTurns rfl 0 (by decide) (hts (.fieldLink RX7 7 "LinkQueues$Turns" "first" "LLinkQueues$Flow;") (by decide +kernel)) (fun _ h9 => h9) rfl dX7_takeFirst_1 ?_
  refine q_astore_n (lv' := [(1, va_re (ad 2) (sR σ 112 0)), (0, .ref (ad 7 0))]) hx hb dX7_takeFirst_4 rfl hl (by decide) rfl (fun ls hl => ?_)
  refine q_aload_n hx hb dX7_takeFirst_5 rfl (lv_at hl 0 rfl) ?_
  refine q_ifnonnull (tgt := 11) hx hb dX7_takeFirst_6 (by decide) (fun b_1 ho_2 => ?_) (fun ho_2 => ?_)
  · replace hwp := hwp.2 b_1 ho_2
    have hl : lv_has ls 2 [(1, .ref (ad 2 b_1)), (0, .ref (ad 7 0))] := by rw [ho_2] at hl; exact hl
    refine lv_aload_n hx hb dX7_takeFirst_11 rfl (lv_at hl 1 rfl) ?_
    refine lv_aload_n hx hb dX7_takeFirst_12 rfl (lv_at hl 0 rfl) ?_
    obtain ⟨hb_3, hwp⟩ := hwp
    refine va_get (D := (dC, dI)) (ci := 2) (v := va_re (ad 2) (sR σ 39 b_1)) (C := RX2) (T := TX2) (N := 15) hx hb hts iX7_takeFirst_2 hown hK hP (7 + b_1) (atFlow hb_3) rfl 7 (by decide) (hts (.fieldLink RX7 20 "LinkQueues$Flow" "behind" "LLinkQueues$Flow;") (by decide +kernel)) (fun _ h9 => h9) rfl dX7_takeFirst_13 ?_
    obtain ⟨s4, e_s4⟩ : ∃ z, z = upR σ 112 0 (sR σ 39 b_1) := ⟨_, rfl⟩
    refine st_put (D := (dC, dI)) (ci := 7) (v := va_re (ad 2) (sR σ 39 b_1)) (ty := (.object "LinkQueues$Flow")) (C := RX7) (T := TX7) (N := 3) (ws' := Wc cA ad n s4) hx hb hts iX7_takeFirst_7 tyX7 tyX7_ok nmX7 hown hK hP hD hS 2 atTurns rfl 0 (by decide) (hts (.fieldLink RX7 7 "LinkQueues$Turns" "first" "LLinkQueues$Flow;") (by decide +kernel)) (fun _ h9 => h9) rfl (by decide +kernel) (nar_re _ (ad 2) (sR σ 39 b_1)) (fits_re _ (ad 2) (sR σ 39 b_1)) (Nat.le_of_ble_eq_true rfl) dX7_takeFirst_16 (by rw [e_s4]; exact stTurns_0 (sR σ 39 b_1)) (fun H locs hP hD hS => ?_)
    replace hwp := hwp s4 e_s4
    refine lv_aload_n hx hb dX7_takeFirst_19 rfl (lv_at hl 1 rfl) ?_
    refine va_get (D := (dC, dI)) (ci := 7) (v := va_re (ad 2) (sR s4 112 0)) (C := RX7) (T := TX7) (N := 3) hx hb hts iX7_takeFirst_7 hown hK hP 2 atTurns rfl 0 (by decide) (hts (.fieldLink RX7 7 "LinkQueues$Turns" "first" "LLinkQueues$Flow;") (by decide +kernel)) (fun _ h9 => h9) rfl dX7_takeFirst_20 ?_
    refine q_ifnonnull (tgt := 31) hx hb dX7_takeFirst_23 (by decide) (fun b_5 ho_6 => ?_) (fun ho_6 => ?_)
    · replace hwp := hwp.2 b_5 ho_6
      refine lv_aload_n hx hb dX7_takeFirst_31 rfl (lv_at hl 0 rfl) ?_
      refine lv_null hx hb dX7_takeFirst_32 ?_
      obtain ⟨s10, e_s10⟩ : ∃ z, z = upR s4 39 b_1 none := ⟨_, rfl⟩
      refine st_put (D := (dC, dI)) (ci := 2) (v := va_re (ad 2) none) (ty := (.object "LinkQueues$Flow")) (C := RX2) (T := TX2) (N := 15) (ws' := Wc cA ad n s10) hx hb hts iX7_takeFirst_2 tyX2 tyX2_ok nmX2 hown hK hP hD hS (7 + b_1) (atFlow hb_3) rfl 7 (by decide) (hts (.fieldLink RX7 20 "LinkQueues$Flow" "behind" "LLinkQueues$Flow;") (by decide +kernel)) (fun _ h9 => h9) rfl (by decide +kernel) (nar_re _ (ad 2) none) (fits_re _ (ad 2) none) (Nat.le_of_ble_eq_true rfl) dX7_takeFirst_33 (by rw [e_s10]; exact stFlow_7 hb_3 none) (fun H locs hP hD hS => ?_)
      replace hwp := hwp s10 e_s10
      refine lv_aload_n hx hb dX7_takeFirst_36 rfl (lv_at hl 1 rfl) ?_
      refine lv_iconst (v := 0) hx hb dX7_takeFirst_37 (by decide) ?_
      obtain ⟨s11, e_s11⟩ : ∃ z, z = upI s10 114 0 0 := ⟨_, rfl⟩
      refine st_put (D := (dC, dI)) (ci := 7) (v := .int 0) (ty := .boolean) (C := RX7) (T := TX7) (N := 3) (ws' := Wc cA ad n s11) hx hb hts iX7_takeFirst_7 tyX7 tyX7_ok nmX7 hown hK hP hD hS 2 atTurns rfl 2 (by decide) (hts (.fieldLink RX7 16 "LinkQueues$Turns" "begun" "Z") (by decide +kernel)) (fun _ h9 => h9) rfl (by decide +kernel) rfl rfl (Nat.le_of_ble_eq_true rfl) dX7_takeFirst_38 (by rw [e_s11]; exact stTurns_2 0) (fun H locs hP hD hS => ?_)
      replace hwp := hwp s11 e_s11
      refine lv_aload_n hx hb dX7_takeFirst_41 rfl (lv_at hl 0 rfl) ?_
      exact q_aret (n := "LinkQueues$Flow") (ad := ad 2) (o := (some b_1)) hx hb hr (fun t ht hW => ⟨⟨(some b_1), s11, rfl, hwp, by rw [ht]; exact hP, va_K.moved hW.alike hK, hD⟩, hS.F ht⟩) hS.2.2 dX7_takeFirst_42 hlocks
    · replace hwp := hwp.1 ho_6
      refine lv_aload_n hx hb dX7_takeFirst_26 rfl (lv_at hl 1 rfl) ?_
      refine lv_null hx hb dX7_takeFirst_27 ?_
      obtain ⟨s7, e_s7⟩ : ∃ z, z = upR s4 113 0 none := ⟨_, rfl⟩
      refine st_put (D := (dC, dI)) (ci := 7) (v := va_re (ad 2) none) (ty := (.object "LinkQueues$Flow")) (C := RX7) (T := TX7) (N := 3) (ws' := Wc cA ad n s7) hx hb hts iX7_takeFirst_7 tyX7 tyX7_ok nmX7 hown hK hP hD hS 2 atTurns rfl 1 (by decide) (hts (.fieldLink RX7 13 "LinkQueues$Turns" "last" "LLinkQueues$Flow;") (by decide +kernel)) (fun _ h9 => h9) rfl (by decide +kernel) (nar_re _ (ad 2) none) (fits_re _ (ad 2) none) (Nat.le_of_ble_eq_true rfl) dX7_takeFirst_28 (by rw [e_s7]; exact stTurns_1 none) (fun H locs hP hD hS => ?_)
      replace hwp := hwp s7 e_s7
      refine lv_aload_n hx hb dX7_takeFirst_31 rfl (lv_at hl 0 rfl) ?_
      refine lv_null hx hb dX7_takeFirst_32 ?_
      obtain ⟨s8, e_s8⟩ : ∃ z, z = upR s7 39 b_1 none := ⟨_, rfl⟩
      refine st_put (D := (dC, dI)) (ci := 2) (v := va_re (ad 2) none) (ty := (.object "LinkQueues$Flow")) (C := RX2) (T := TX2) (N := 15) (ws' := Wc cA ad n s8) hx hb hts iX7_takeFirst_2 tyX2 tyX2_ok nmX2 hown hK hP hD hS (7 + b_1) (atFlow hb_3) rfl 7 (by decide) (hts (.fieldLink RX7 20 "LinkQueues$Flow" "behind" "LLinkQueues$Flow;") (by decide +kernel)) (fun _ h9 => h9) rfl (by decide +kernel) (nar_re _ (ad 2) none) (fits_re _ (ad 2) none) (Nat.le_of_ble_eq_true rfl) dX7_takeFirst_33 (by rw [e_s8]; exact stFlow_7 hb_3 none) (fun H locs hP hD hS => ?_)
      replace hwp := hwp s8 e_s8
      refine lv_aload_n hx hb dX7_takeFirst_36 rfl (lv_at hl 1 rfl) ?_
      refine lv_iconst (v := 0) hx hb dX7_takeFirst_37 (by decide) ?_
      obtain ⟨s9, e_s9⟩ : ∃ z, z = upI s8 114 0 0 := ⟨_, rfl⟩
      refine st_put (D := (dC, dI)) (ci := 7) (v := .int 0) (ty := .boolean) (C := RX7) (T := TX7) (N := 3) (ws' := Wc cA ad n s9) hx hb hts iX7_takeFirst_7 tyX7 tyX7_ok nmX7 hown hK hP hD hS 2 atTurns rfl 2 (by decide) (hts (.fieldLink RX7 16 "LinkQueues$Turns" "begun" "Z") (by decide +kernel)) (fun _ h9 => h9) rfl (by decide +kernel) rfl rfl (Nat.le_of_ble_eq_true rfl) dX7_takeFirst_38 (by rw [e_s9]; exact stTurns_2 0) (fun H locs hP hD hS => ?_)
      replace hwp := hwp s9 e_s9
      refine lv_aload_n hx hb dX7_takeFirst_41 rfl (lv_at hl 0 rfl) ?_
      exact q_aret (n := "LinkQueues$Flow") (ad := ad 2) (o := (some b_1)) hx hb hr (fun t ht hW => ⟨⟨(some b_1), s9, rfl, hwp, by rw [ht]; exact hP, va_K.moved hW.alike hK, hD⟩, hS.F ht⟩) hS.2.2 dX7_takeFirst_42 hlocks
  · replace hwp := hwp.1 ho_2
    have hl : lv_has ls 2 [(1, .null), (0, .ref (ad 7 0))] := by rw [ho_2] at hl; exact hl
    refine lv_null hx hb dX7_takeFirst_9 ?_
    exact q_aret (n := "LinkQueues$Flow") (ad := ad 2) (o := none) hx hb hr (fun t ht hW => ⟨⟨none, σ, rfl, hwp, by rw [ht]; exact hP, va_K.moved hW.alike hK, hD⟩, hS.F ht⟩) hS.2.2 dX7_takeFirst_10 hlocks
def wp_X7_passOn (n : Nat) (σ : ST) (K : ST → Prop) : Prop := wp_X7_takeFirst n σ (fun r2 s1 =>
((r2 = none → (K s1)) ∧ (∀ b_3, r2 = some b_3 → (wp_X7_join n s1 b_3 (fun s5 =>
K s5
))))
)
set_option maxHeartbeats 8000000 in
set_option maxRecDepth 100000 in
theorem c_X7_passOn (l : Launch) (dC : Nat → ClassId) (dI : Nat → Nat → Nat) (cA : Nat → ClassId) (ad : Nat → Nat → Nat) (n : Nat) (σ : ST) (sz : Nat) (K : ST → Prop) (hwp : wp_X7_passOn n σ K) : Met l yX7_passOn wsX7_passOn ({ frames := 1, cells := 0, slots := 0, locals := 21 } : Room) (va_Pc [.ref (ad 7 0)] (preC dC dI cA (Wc cA ad n σ) sz)) (va_Qv K (atC dC dI cA (Wc cA ad n) (va_A (Wc cA ad n σ) sz)) (va_A (Wc cA ad n σ) sz)) 0 0 (va_A (Wc cA ad n σ) sz) := by
  refine Met.ofW (cc := cX7_passOn) (maxL := 2) (ret := none) (by decide) rfl ?_
  intro p e s m args below meth c s₁ B hml hv
  obtain ⟨rfl, hsz, hP, hK, hD0⟩ := hv
  have hx := B.exec
  have hb := B.bytes
  have hr := B.returns
  have hts := atoms_spec (ws := wsX7_passOn) B.pre
  have hown : s.vm.findClass RX7 = some m.cls := findClass_of_methodNamed B.named
  have hlocks := B.notSynchronized
  subst hsz
  have hD := hD0.self (sz := s.heap.size)
  clear hD0
  generalize hAe : va_A (Wc cA ad n σ) s.heap.size = A at hD ⊢
  have hA : ∀ q : Nat, s.heap.size ≤ q → A q := fun q h => by rw [← hAe]; exact Or.inr h
  have hS : va_S A s.heap s.heap [] := va_S.rf
  have hkc : 0 ≤ 0 := Nat.le_refl 0
  have hks : 0 ≤ 0 := Nat.le_refl 0
  have hl := lv_entry ([.ref (ad 7 0)]) (n := 2) (Nat.le_of_ble_eq_true rfl)
  rw [lg_entry_eq]
  generalize (lg_sl ([.ref (ad 7 0)]) ++ List.replicate (2 - (lg_sl ([.ref (ad 7 0)])).length) Slot.unset).toArray = ls at hl ⊢
  have hl : lv_has ls 2 [(0, .ref (ad 7 0))] := hl
  unfold wp_X7_passOn at hwp
  generalize hHe : s.heap = H at hP ⊢
  have hS : va_S A s.heap H [] := by rw [← hHe]; exact va_S.rf
  clear hHe
  refine lv_aload_n hx hb dX7_passOn_0 rfl (lv_at hl 0 rfl) ?_
  have hF := fA hD hS hA
  refine va_calle (va_runV (As := []) (rest := []) ⟨hx, hb, hml, hown, hts⟩ (c_X7_takeFirst l dC dI cA ad n σ H.size _ hwp) (cwV 0 hts gX7_passOn_X7_takeFirst rfl rfl rfl (by decide +kernel) ⟨Nat.le_of_ble_eq_true rfl, Nat.le_of_ble_eq_true rfl⟩) ⟨fbC, va_recv hK hP (ci := 7) (q0 := 2) rfl atTurns, fun U hU hW => ⟨rfl, by rw [hU], by rw [hU]; exact hP, va_K.moved hW.alike hK, hD.weaken (fun _ _ _ _ => trivial)⟩⟩ rfl rfl hl.1 rfl (lv_room (Nat.le_of_ble_eq_true rfl)) dX7_passOn_1 ⟨Nat.le_of_ble_eq_true rfl, Nat.le_of_ble_eq_true rfl⟩) hS (fun q _ h => hF q h) hF (fun r2 s1 t H1 locs ht hvm hwp hB hz1 hk1 hS => ?_)
  obtain ⟨hP1, hK1, hD1⟩ := hB
  rw [ht] at hP1
  have hD2 := hD1.weaken (fun _ q _ h => hF q.1 h)
  clear hP hD
  have hP := hP1
  have hD := hD2
  clear hP1 hD1 hD2 hK1 hk1 hz1 hF
  generalize H1 = H at hP hS ⊢
  refine q_astore_n (lv' := [(1, va_re (ad 2) r2), (0, .ref (ad 7 0))]) hx hb dX7_passOn_4 rfl hl (by decide) rfl (fun ls hl => ?_)
  refine q_aload_n hx hb dX7_passOn_5 rfl (lv_at hl 0 rfl) ?_
  refine q_ifnull (tgt := 14) hx hb dX7_passOn_6 (by decide) (fun ho_4 => ?_) (fun b_3 ho_4 => ?_)
  · replace hwp := hwp.1 ho_4
    have hl : lv_has ls 2 [(1, .null), (0, .ref (ad 7 0))] := by rw [ho_4] at hl; exact hl
    exact W.vret hx hb hr (fun t ht hW => ⟨⟨s1, rfl, hwp, by rw [ht]; exact hP, va_K.moved hW.alike hK, hD⟩, hS.F ht⟩) hS.2.2 dX7_passOn_14
  · replace hwp := hwp.2 b_3 ho_4
    have hl : lv_has ls 2 [(1, .ref (ad 2 b_3)), (0, .ref (ad 7 0))] := by rw [ho_4] at hl; exact hl
    refine lv_aload_n hx hb dX7_passOn_9 rfl (lv_at hl 1 rfl) ?_
    refine lv_aload_n hx hb dX7_passOn_10 rfl (lv_at hl 0 rfl) ?_
    have hF := fA hD hS hA
    refine va_callv (va_runV (As := [.ref (ad 2 b_3)]) (rest := []) ⟨hx, hb, hml, hown, hts⟩ (c_X7_join l dC dI cA ad n s1 b_3 H.size _ hwp) (cwV 1 hts gX7_passOn_X7_join rfl rfl rfl (by decide +kernel) ⟨Nat.le_of_ble_eq_true rfl, Nat.le_of_ble_eq_true rfl⟩) ⟨fbC, va_recv hK hP (ci := 7) (q0 := 2) rfl atTurns, fun U hU hW => ⟨rfl, by rw [hU], by rw [hU]; exact hP, va_K.moved hW.alike hK, hD.weaken (fun _ _ _ _ => trivial)⟩⟩ rfl rfl hl.1 rfl (lv_room (Nat.le_of_ble_eq_true rfl)) dX7_passOn_11 ⟨Nat.le_of_ble_eq_true rfl, Nat.le_of_ble_eq_true rfl⟩) hS (fun q _ h => hF q h) hF (fun s5 t H1 locs ht hvm hwp hB hz1 hk1 hS => ?_)
    obtain ⟨hP1, hK1, hD1⟩ := hB
    rw [ht] at hP1
    have hD2 := hD1.weaken (fun _ q _ h => hF q.1 h)
    clear hP hD
    have hP := hP1
    have hD := hD2
    clear hP1 hD1 hD2 hK1 hk1 hz1 hF
    generalize H1 = H at hP hS ⊢
    exact W.vret hx hb hr (fun t ht hW => ⟨⟨s5, rfl, hwp, by rw [ht]; exact hP, va_K.moved hW.alike hK, hD⟩, hS.F ht⟩) hS.2.2 dX7_passOn_14
def wp_X7_leave (n : Nat) (σ : ST) (K : ST → Prop) : Prop := wp_X7_takeFirst n σ (fun r2 s1 =>
((r2 = none → (K s1)) ∧ (∀ b_3, r2 = some b_3 → (b_3 < 6 ∧
∀ s6, s6 = upI s1 38 b_3 0 →
K s6)))
)
set_option maxRecDepth 20000 in
theorem iX7_leave_2 : ∀ w ∈ wsX20, w ∈ wsX7_leave := by decide +kernel
set_option maxHeartbeats 8000000 in
set_option maxRecDepth 100000 in
theorem c_X7_leave (l : Launch) (dC : Nat → ClassId) (dI : Nat → Nat → Nat) (cA : Nat → ClassId) (ad : Nat → Nat → Nat) (n : Nat) (σ : ST) (sz : Nat) (K : ST → Prop) (hwp : wp_X7_leave n σ K) : Met l yX7_leave wsX7_leave ({ frames := 1, cells := 0, slots := 0, locals := 21 } : Room) (va_Pc [.ref (ad 7 0)] (preC dC dI cA (Wc cA ad n σ) sz)) (va_Qv K (atC dC dI cA (Wc cA ad n) (va_A (Wc cA ad n σ) sz)) (va_A (Wc cA ad n σ) sz)) 0 0 (va_A (Wc cA ad n σ) sz) := by
  refine Met.ofW (cc := cX7_leave) (maxL := 2) (ret := none) (by decide) rfl ?_
  intro p e s m args below meth c s₁ B hml hv
  obtain ⟨rfl, hsz, hP, hK, hD0⟩ := hv
  have hx := B.exec
  have hb := B.bytes
  have hr := B.returns
  have hts := atoms_spec (ws := wsX7_leave) B.pre
  have hown : s.vm.findClass RX7 = some m.cls := findClass_of_methodNamed B.named
  have hlocks := B.notSynchronized
  subst hsz
  have hD := hD0.self (sz := s.heap.size)
  clear hD0
  generalize hAe : va_A (Wc cA ad n σ) s.heap.size = A at hD ⊢
  have hA : ∀ q : Nat, s.heap.size ≤ q → A q := fun q h => by rw [← hAe]; exact Or.inr h
  have hS : va_S A s.heap s.heap [] := va_S.rf
  have hkc : 0 ≤ 0 := Nat.le_refl 0
  have hks : 0 ≤ 0 := Nat.le_refl 0
  have hl := lv_entry ([.ref (ad 7 0)]) (n := 2) (Nat.le_of_ble_eq_true rfl)
  rw [lg_entry_eq]
  generalize (lg_sl ([.ref (ad 7 0)]) ++ List.replicate (2 - (lg_sl ([.ref (ad 7 0)])).length) Slot.unset).toArray = ls at hl ⊢
  have hl : lv_has ls 2 [(0, .ref (ad 7 0))] := hl
  unfold wp_X7_leave at hwp
  generalize hHe : s.heap = H at hP ⊢
  have hS : va_S A s.heap H [] := by rw [← hHe]; exact va_S.rf
  clear hHe
  refine lv_aload_n hx hb dX7_leave_0 rfl (lv_at hl 0 rfl) ?_
  have hF := fA hD hS hA
  refine va_calle (va_runV (As := []) (rest := []) ⟨hx, hb, hml, hown, hts⟩ (c_X7_takeFirst l dC dI cA ad n σ H.size _ hwp) (cwV 0 hts gX7_leave_X7_takeFirst rfl rfl rfl (by decide +kernel) ⟨Nat.le_of_ble_eq_true rfl, Nat.le_of_ble_eq_true rfl⟩) ⟨fbC, va_recv hK hP (ci := 7) (q0 := 2) rfl atTurns, fun U hU hW => ⟨rfl, by rw [hU], by rw [hU]; exact hP, va_K.moved hW.alike hK, hD.weaken (fun _ _ _ _ => trivial)⟩⟩ rfl rfl hl.1 rfl (lv_room (Nat.le_of_ble_eq_true rfl)) dX7_leave_1 ⟨Nat.le_of_ble_eq_true rfl, Nat.le_of_ble_eq_true rfl⟩) hS (fun q _ h => hF q h) hF (fun r2 s1 t H1 locs ht hvm hwp hB hz1 hk1 hS => ?_)
  obtain ⟨hP1, hK1, hD1⟩ := hB
  rw [ht] at hP1
  have hD2 := hD1.weaken (fun _ q _ h => hF q.1 h)
  clear hP hD
  have hP := hP1
  have hD := hD2
  clear hP1 hD1 hD2 hK1 hk1 hz1 hF
  generalize H1 = H at hP hS ⊢
  refine q_astore_n (lv' := [(1, va_re (ad 2) r2), (0, .ref (ad 7 0))]) hx hb dX7_leave_4 rfl hl (by decide) rfl (fun ls hl => ?_)
  refine q_aload_n hx hb dX7_leave_5 rfl (lv_at hl 0 rfl) ?_
  refine q_ifnull (tgt := 14) hx hb dX7_leave_6 (by decide) (fun ho_4 => ?_) (fun b_3 ho_4 => ?_)
  · replace hwp := hwp.1 ho_4
    have hl : lv_has ls 2 [(1, .null), (0, .ref (ad 7 0))] := by rw [ho_4] at hl; exact hl
    exact W.vret hx hb hr (fun t ht hW => ⟨⟨s1, rfl, hwp, by rw [ht]; exact hP, va_K.moved hW.alike hK, hD⟩, hS.F ht⟩) hS.2.2 dX7_leave_14
  · replace hwp := hwp.2 b_3 ho_4
    have hl : lv_has ls 2 [(1, .ref (ad 2 b_3)), (0, .ref (ad 7 0))] := by rw [ho_4] at hl; exact hl
    refine lv_aload_n hx hb dX7_leave_9 rfl (lv_at hl 0 rfl) ?_
    refine lv_iconst (v := 0) hx hb dX7_leave_10 (by decide) ?_
    obtain ⟨hb_5, hwp⟩ := hwp
    obtain ⟨s6, e_s6⟩ : ∃ z, z = upI s1 38 b_3 0 := ⟨_, rfl⟩
    refine st_put (D := (dC, dI)) (ci := 2) (v := .int 0) (ty := .int) (C := RX2) (T := TX2) (N := 15) (ws' := Wc cA ad n s6) hx hb hts iX7_leave_2 tyX2 tyX2_ok nmX2 hown hK hP hD hS (7 + b_3) (atFlow hb_5) rfl 6 (by decide) (hts (.fieldLink RX7 25 "LinkQueues$Flow" "deficit" "I") (by decide +kernel)) (fun _ h9 => h9) rfl (by decide +kernel) rfl rfl (Nat.le_of_ble_eq_true rfl) dX7_leave_11 (by rw [e_s6]; exact stFlow_6 hb_5 0) (fun H locs hP hD hS => ?_)
    replace hwp := hwp s6 e_s6
    exact W.vret hx hb hr (fun t ht hW => ⟨⟨s6, rfl, hwp, by rw [ht]; exact hP, va_K.moved hW.alike hK, hD⟩, hS.F ht⟩) hS.2.2 dX7_leave_14
def wp_X7_flowAfter_L15 (n : Nat) (a1 : Int32) (K : Option Nat → ST → Prop) : Nat → ST → Int32 → Option Nat → Prop
  | 0 => fun _ _ _ => False
  | fu15 + 1 => fun z15 x3_15 x2_15 => ((a1 ≤ x3_15 → (K x2_15 z15)) ∧ (¬ (a1 ≤ x3_15) → (((x2_15 = none → (K none z15)) ∧ (∀ b_1, x2_15 = some b_1 → (b_1 < 6 ∧
wp_X7_flowAfter_L15 n a1 K fu15 z15 (x3_15 + 1) (sR z15 39 b_1)))))))
def wp_X7_flowAfter_J12 (n : Nat) (a1 : Int32) (K : Option Nat → ST → Prop) (z12 : ST) (y0_12 : Option Nat) : Prop := ∃ n15, wp_X7_flowAfter_L15 n a1 K n15 z12 0 y0_12
def wp_X7_flowAfter (n : Nat) (σ : ST) (a1 : Int32) (K : Option Nat → ST → Prop) : Prop := ((0 ≤ a1 → (wp_X7_flowAfter_J12 n a1 K σ (sR σ 112 0))) ∧ (¬ (0 ≤ a1) → (wp_X7_flowAfter_J12 n a1 K σ none)))
set_option maxRecDepth 20000 in
theorem iX7_flowAfter_2 : ∀ w ∈ wsX20, w ∈ wsX7_flowAfter := by decide +kernel
set_option maxRecDepth 20000 in
theorem iX7_flowAfter_7 : ∀ w ∈ wsX70, w ∈ wsX7_flowAfter := by decide +kernel
set_option maxHeartbeats 8000000 in
set_option maxRecDepth 100000 in
theorem c_X7_flowAfter (l : Launch) (dC : Nat → ClassId) (dI : Nat → Nat → Nat) (cA : Nat → ClassId) (ad : Nat → Nat → Nat) (n : Nat) (σ : ST) (a1 : Int32) (sz : Nat) (K : Option Nat → ST → Prop) (hwp : wp_X7_flowAfter n σ a1 K) : Met l yX7_flowAfter wsX7_flowAfter ({ frames := 0, cells := 0, slots := 0, locals := 0 } : Room) (va_Pc [.ref (ad 7 0), .int a1] (preC dC dI cA (Wc cA ad n σ) sz)) (va_Qe (ad 2) K (atC dC dI cA (Wc cA ad n) (va_A (Wc cA ad n σ) sz)) (va_A (Wc cA ad n σ) sz)) 0 0 (va_A (Wc cA ad n σ) sz) := by
  refine Met.ofW (cc := cX7_flowAfter) (maxL := 4) (ret := (some (.object "LinkQueues$Flow"))) (by decide) rfl ?_
  intro p e s m args below meth c s₁ B hml hv
  obtain ⟨rfl, hsz, hP, hK, hD0⟩ := hv
  have hx := B.exec
  have hb := B.bytes
  have hr := B.returns
  have hts := atoms_spec (ws := wsX7_flowAfter) B.pre
  have hown : s.vm.findClass RX7 = some m.cls := findClass_of_methodNamed B.named
  have hlocks := B.notSynchronized
  subst hsz
  have hD := hD0.self (sz := s.heap.size)
  clear hD0
  generalize hAe : va_A (Wc cA ad n σ) s.heap.size = A at hD ⊢
  have hA : ∀ q : Nat, s.heap.size ≤ q → A q := fun q h => by rw [← hAe]; exact Or.inr h
  have hS : va_S A s.heap s.heap [] := va_S.rf
  have hkc : 0 ≤ 0 := Nat.le_refl 0
  have hks : 0 ≤ 0 := Nat.le_refl 0
  have hl := lv_entry ([.ref (ad 7 0), .int a1]) (n := 4) (Nat.le_of_ble_eq_true rfl)
  rw [lg_entry_eq]
  generalize (lg_sl ([.ref (ad 7 0), .int a1]) ++ List.replicate (4 - (lg_sl ([.ref (ad 7 0), .int a1])).length) Slot.unset).toArray = ls at hl ⊢
  have hl : lv_has ls 4 [(0, .ref (ad 7 0)), (1, .int a1)] := hl
  unfold wp_X7_flowAfter at hwp
  generalize hHe : s.heap = H at hP ⊢
  have hS : va_S A s.heap H [] := by rw [← hHe]; exact va_S.rf
  clear hHe
  refine lv_iload_n hx hb dX7_flowAfter_0 rfl (lv_at hl 1 rfl) ?_
  have J12 : ∀ (z12 : ST) (y0_12 : Option Nat), wp_X7_flowAfter_J12 n a1 K z12 y0_12 → ∀ (H : Heap) (locs : List Loc) (ls : Array Slot), va_P (dC, dI) vwCl (Wc cA ad n z12) H → va_D A (Wc cA ad n z12) → va_S A s.heap H locs → lv_has ls 4 [(1, .int a1)] → W p l e ({ frames := 0, cells := 0, slots := 0, locals := 0 } : Room) s m (([.ref (ad 7 0), .int a1] : List Value).toArray) below meth c H locs 0 0 (MQ below (va_Qe (ad 2) K (atC dC dI cA (Wc cA ad n) A) A) (([.ref (ad 7 0), .int a1] : List Value).toArray) s 0 0 A) (F0 m 12 ls [va_re (ad 2) y0_12]) := by
    intro z12 y0_12 hwp H locs ls hP hD hS hl
    refine q_astore_n (lv' := [(2, va_re (ad 2) y0_12), (1, .int a1)]) hx hb dX7_flowAfter_12 rfl hl (by decide) rfl (fun ls hl => ?_)
    refine lv_iconst (v := 0) hx hb dX7_flowAfter_13 (by decide) ?_
    refine lv_istore_n (lv' := [(3, .int 0), (2, va_re (ad 2) y0_12), (1, .int a1)]) hx hb dX7_flowAfter_14 rfl hl (by decide) (by generalize y0_12 = qq; cases qq <;> rfl) (fun ls hl => ?_)
    obtain ⟨n15, hwp⟩ := hwp
    have L15 : ∀ (fu15 : Nat) (z15 : ST) (x3_15 : Int32) (x2_15 : Option Nat), wp_X7_flowAfter_L15 n a1 K fu15 z15 x3_15 x2_15 → ∀ (H : Heap) (locs : List Loc) (ls : Array Slot), va_P (dC, dI) vwCl (Wc cA ad n z15) H → va_D A (Wc cA ad n z15) → va_S A s.heap H locs → lv_has ls 4 [(3, .int x3_15), (2, va_re (ad 2) x2_15), (1, .int a1)] → W p l e ({ frames := 0, cells := 0, slots := 0, locals := 0 } : Room) s m (([.ref (ad 7 0), .int a1] : List Value).toArray) below meth c H locs 0 0 (MQ below (va_Qe (ad 2) K (atC dC dI cA (Wc cA ad n) A) A) (([.ref (ad 7 0), .int a1] : List Value).toArray) s 0 0 A) (F0 m 15 ls []) := by
      intro fu15
      induction fu15 with
      | zero => intro z15 x3_15 x2_15 h; exact h.elim
      | succ fu15 ih15 =>
        intro z15 x3_15 x2_15 hwp H locs ls hP hD hS hl
        refine lv_iload_n hx hb dX7_flowAfter_15 rfl (lv_at hl 0 rfl) ?_
        refine lv_iload_n hx hb dX7_flowAfter_16 rfl (lv_at hl 2 rfl) ?_
        refine lv_icmp_ge (tgt := 35) hx hb dX7_flowAfter_17 (by decide) (fun c_17 => ?_) (fun c_17 => ?_)
        · replace hwp := hwp.1 c_17
          refine q_aload_n hx hb dX7_flowAfter_35 rfl (lv_at hl 1 rfl) ?_
          exact q_aret (n := "LinkQueues$Flow") (ad := ad 2) (o := x2_15) hx hb hr (fun t ht hW => ⟨⟨x2_15, z15, rfl, hwp, by rw [ht]; exact hP, va_K.moved hW.alike hK, hD⟩, hS.F ht⟩) hS.2.2 dX7_flowAfter_36 hlocks
        · replace hwp := hwp.2 c_17
          refine q_aload_n hx hb dX7_flowAfter_20 rfl (lv_at hl 1 rfl) ?_
          refine q_ifnull (tgt := 35) hx hb dX7_flowAfter_21 (by decide) (fun ho_2 => ?_) (fun b_1 ho_2 => ?_)
          · replace hwp := hwp.1 ho_2
            have hl : lv_has ls 4 [(3, .int x3_15), (2, .null), (1, .int a1)] := by rw [ho_2] at hl; exact hl
            refine lv_aload_nN hx hb dX7_flowAfter_35 rfl (lv_at hl 1 rfl) ?_
            exact q_aret (n := "LinkQueues$Flow") (ad := ad 2) (o := none) hx hb hr (fun t ht hW => ⟨⟨none, z15, rfl, hwp, by rw [ht]; exact hP, va_K.moved hW.alike hK, hD⟩, hS.F ht⟩) hS.2.2 dX7_flowAfter_36 hlocks
          · replace hwp := hwp.2 b_1 ho_2
            have hl : lv_has ls 4 [(3, .int x3_15), (2, .ref (ad 2 b_1)), (1, .int a1)] := by rw [ho_2] at hl; exact hl
            refine lv_aload_n hx hb dX7_flowAfter_24 rfl (lv_at hl 1 rfl) ?_
            obtain ⟨hb_3, hwp⟩ := hwp
            refine va_get (D := (dC, dI)) (ci := 2) (v := va_re (ad 2) (sR z15 39 b_1)) (C := RX2) (T := TX2) (N := 15) hx hb hts iX7_flowAfter_2 hown hK hP (7 + b_1) (atFlow hb_3) rfl 7 (by decide) (hts (.fieldLink RX7 20 "LinkQueues$Flow" "behind" "LLinkQueues$Flow;") (by decide +kernel)) (fun _ h9 => h9) rfl dX7_flowAfter_25 ?_
            refine q_astore_n (lv' := [(2, va_re (ad 2) (sR z15 39 b_1)), (3, .int x3_15), (1, .int a1)]) hx hb dX7_flowAfter_28 rfl hl (by decide) rfl (fun ls hl => ?_)
            refine lv_iinc (v := (x3_15 + 1)) (lv' := [(3, .int (x3_15 + 1)), (2, va_re (ad 2) (sR z15 39 b_1)), (1, .int a1)]) hx hb dX7_flowAfter_29 hl (k := 1) rfl rfl (by decide) (by generalize (sR z15 39 b_1) = qq; cases qq <;> rfl) (fun ls hl => ?_)
            refine lv_goto (tgt := 15) hx hb dX7_flowAfter_32 (by decide) ?_
            exact ih15 z15 (x3_15 + 1) (sR z15 39 b_1) hwp _ _ _ hP hD hS (lv_sub hl [0, 1, 2] rfl)
    exact L15 n15 z12 0 y0_12 hwp _ _ _ hP hD hS (lv_sub hl [0, 1, 2] rfl)
  refine lv_if_ge (tgt := 8) hx hb dX7_flowAfter_1 (by decide) (fun c_1 => ?_) (fun c_1 => ?_)
  · replace hwp := hwp.1 c_1
    refine lv_aload_n hx hb dX7_flowAfter_8 rfl (lv_at hl 0 rfl) ?_
    refine va_get (D := (dC, dI)) (ci := 7) (v := va_re (ad 2) (sR σ 112 0)) (C := RX7) (T := TX7) (N := 3) hx hb hts iX7_flowAfter_7 hown hK hP 2 atTurns rfl 0 (by decide) (hts (.fieldLink RX7 7 "LinkQueues$Turns" "first" "LLinkQueues$Flow;") (by decide +kernel)) (fun _ h9 => h9) rfl dX7_flowAfter_9 ?_
    exact J12 σ (sR σ 112 0) hwp _ _ _ hP hD hS (lv_sub hl [1] rfl)
  · replace hwp := hwp.2 c_1
    refine lv_null hx hb dX7_flowAfter_4 ?_
    refine lv_goto (tgt := 12) hx hb dX7_flowAfter_5 (by decide) ?_
    exact J12 σ none hwp _ _ _ hP hD hS (lv_sub hl [1] rfl)
