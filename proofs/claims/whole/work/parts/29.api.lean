def wp_X8_come (n : Nat) (σ : ST) (a1 : Int32) (a2 : Int32) (a3 : Int32) (K : Int32 → Nat → ST → Prop) (KX : String → ST → Prop) : Prop := wp_X8_flowAt n σ a1 (fun r2 s1 =>
((a2 < 1 → (KX "java/lang/IllegalArgumentException" s1)) ∧ (¬ (a2 < 1) → (((a2 ≤ 1500 → (freshP n s1 ∧ ∀ s4, s4 = npk s1 n → ∀ pk, pk = n → ∀ n, n = pk + 1 →
∃ b_6, r2 = some b_6 ∧
pk < n ∧
wp_X5_init n s4 pk (sI s4 133 0) b_6 a2 (sI s4 132 0) a3 (fun s8 =>
∀ s10, s10 = upI s8 133 0 ((sI s8 133 0) + 1) →
b_6 < 6 ∧
∀ s12, s12 = upI s10 40 b_6 ((sI s10 40 b_6) + 1) →
((100 ≤ (sI s12 134 0) → (∀ s13, s13 = upI s12 43 b_6 ((sI s12 43 b_6) + 1) →
K (-1) n s13)) ∧ (¬ (100 ≤ (sI s12 134 0)) → (((((sI s12 135 0) + a2) ≤ (sI s12 136 0) → (wp_X2_letsIn n s12 b_6 pk (sI s12 132 0) (fun r15 s14 =>
((¬ r15 = 0 → (wp_X8_putIn n s14 pk (fun s16 =>
K (sI s16 80 pk) n s16
))) ∧ (r15 = 0 → (∀ s17, s17 = upI s14 44 b_6 ((sI s14 44 b_6) + 1) →
K (-1) n s17)))
))) ∧ (¬ (((sI s12 135 0) + a2) ≤ (sI s12 136 0)) → (∀ s18, s18 = upI s12 43 b_6 ((sI s12 43 b_6) + 1) →
K (-1) n s18))))))
))) ∧ (¬ (a2 ≤ 1500) → (KX "java/lang/IllegalArgumentException" s1))))))
) KX
set_option maxRecDepth 20000 in
theorem iX8_come_5 : ∀ w ∈ wsX50, w ∈ wsX8_come := by decide +kernel
set_option maxRecDepth 20000 in
theorem iX8_come_8 : ∀ w ∈ wsX80, w ∈ wsX8_come := by decide +kernel
set_option maxRecDepth 20000 in
theorem iX8_come_2 : ∀ w ∈ wsX20, w ∈ wsX8_come := by decide +kernel
theorem iX8_come_A : ∀ w ∈ (vx_atS RX8 73 "java/lang/IllegalArgumentException" ["java/lang/RuntimeException", "java/lang/Exception"]).filter goodWord, w ∈ wsX8_come := fun _ h => List.mem_cons_of_mem _ (List.mem_append_right _ h)
set_option maxHeartbeats 8000000 in
set_option maxRecDepth 100000 in
theorem c_X8_come (l : Launch) (hfl : l.stackTraces = false) (dC : Nat → ClassId) (dI : Nat → Nat → Nat) (cA : Nat → ClassId) (ad : Nat → Nat → Nat) (n : Nat) (σ : ST) (a1 : Int32) (a2 : Int32) (a3 : Int32) (sz : Nat) (K : Int32 → Nat → ST → Prop) (KX : String → ST → Prop) (hwp : wp_X8_come n σ a1 a2 a3 K KX) : vx_Met l yX8_come wsX8_come ({ frames := 7, cells := 2, slots := 14, locals := 112 } : Room) (va_Pc [.ref (ad 8 0), .int a1, .int a2, .int a3] (preX dC dI cA (Wc cA ad n σ) sz)) (va_Qi (fun (r : Int32) (u : ST × (Nat → Nat → Nat) × Nat) => K r u.2.2 u.1) (fun u t => atC dC dI cA (Wc cA u.2.1 u.2.2) (va_A (Wc cA ad n σ) sz) u.1 t ∧ u.2.1 8 0 = ad 8 0) (va_A (Wc cA ad n σ) sz)) (xQ dC dI cA (Wc cA ad n) KX (va_A (Wc cA ad n σ) sz)) 2 14 (va_A (Wc cA ad n σ) sz) := by
  refine vx_ofW (cc := cX8_come) (maxL := 6) (ret := (some .int)) (by decide) rfl ?_
  intro p e s m args below meth c s₁ B hml hnt hv
  obtain ⟨rfl, ⟨hsz, hP, hK, hD0⟩, hT⟩ := hv
  have hx := B.exec
  have hb := B.bytes
  have hr := B.returns
  have hts := atoms_spec (ws := wsX8_come) B.pre
  have hown : s.vm.findClass RX8 = some m.cls := findClass_of_methodNamed B.named
  have hlocks := B.notSynchronized
  subst hsz
  have hD := hD0.self (sz := s.heap.size)
  clear hD0
  generalize hAe : va_A (Wc cA ad n σ) s.heap.size = A at hD hT ⊢
  have hA : ∀ q : Nat, s.heap.size ≤ q → A q := fun q h => by rw [← hAe]; exact Or.inr h
  have hS : va_S A s.heap s.heap [] := va_S.rf
  have hkc : 0 ≤ 0 := Nat.le_refl 0
  have hks : 0 ≤ 0 := Nat.le_refl 0
  have hl := lv_entry ([.ref (ad 8 0), .int a1, .int a2, .int a3]) (n := 6) (Nat.le_of_ble_eq_true rfl)
  rw [lg_entry_eq]
  generalize (lg_sl ([.ref (ad 8 0), .int a1, .int a2, .int a3]) ++ List.replicate (6 - (lg_sl ([.ref (ad 8 0), .int a1, .int a2, .int a3])).length) Slot.unset).toArray = ls at hl ⊢
  have hl : lv_has ls 6 [(0, .ref (ad 8 0)), (1, .int a1), (2, .int a2), (3, .int a3)] := hl
  unfold wp_X8_come at hwp
  generalize hHe : s.heap = H at hP ⊢
  have hS : va_S A s.heap H [] := by rw [← hHe]; exact va_S.rf
  clear hHe
  refine lv_aload_n hx hb dX8_come_0 rfl (lv_at hl 0 rfl) ?_
  refine lv_iload_n hx hb dX8_come_1 rfl (lv_at hl 1 rfl) ?_
  have hF := fA hD hS hA
  refine vx_calle (vx_runV (As := [.int a1]) (rest := []) ⟨hx, hb, hml, hown, hts⟩ (c_X8_flowAt l hfl dC dI cA ad n σ a1 H.size _ _ hwp) (cwV 1 hts gX8_come_X8_flowAt rfl rfl rfl (by decide +kernel) ⟨Nat.le_of_ble_eq_true rfl, Nat.le_of_ble_eq_true rfl⟩) ⟨fbX, va_recv hK hP (ci := 8) (q0 := 0) rfl atLq, fun U hU hW => ⟨rfl, ⟨by rw [hU], by rw [hU]; exact hP, va_K.moved hW.alike hK, hD.weaken (fun _ _ _ _ => trivial)⟩, hT.move hW hS hU hF⟩⟩ rfl rfl hl.1 rfl (lv_room (Nat.le_of_ble_eq_true rfl)) dX8_come_2 ⟨Nat.le_of_ble_eq_true rfl, Nat.le_of_ble_eq_true rfl⟩) hS (fun q _ h => hF q h) hF (fun q _ h => hF q h) (fun E ce q9 u t H1 locs ht hvm hpx hBX hz1 hk1 hS1 hce hcv hcl => ?_) (fun r2 s1 t H1 locs ht hvm hwp hB hz1 hk1 hS => ?_)
  · exact vx_out (fun x hx => (hnt x hx).elim) hlocks hce hcv hcl (xPass hS1 hpx hBX ht hvm hF) hS1.2.2 (Nat.le_of_ble_eq_true rfl) (Nat.le_of_ble_eq_true rfl)
  obtain ⟨hP1, hK1, hD1⟩ := hB
  rw [ht] at hP1
  have hD2 := hD1.weaken (fun _ q _ h => hF q.1 h)
  clear hP hD
  have hP := hP1
  have hD := hD2
  clear hP1 hD1 hD2 hK1 hk1 hz1 hF
  generalize H1 = H at hP hS ⊢
  refine q_astore (lv' := [(4, va_re (ad 2) r2), (0, .ref (ad 8 0)), (1, .int a1), (2, .int a2), (3, .int a3)]) hx hb dX8_come_5 hl (by decide) rfl (fun ls hl => ?_)
  refine lv_iload_n hx hb dX8_come_7 rfl (lv_at hl 3 rfl) ?_
  refine lv_iconst (v := 1) hx hb dX8_come_8 (by decide) ?_
  refine lv_icmp_lt (tgt := 19) hx hb dX8_come_9 (by decide) (fun c_9 => ?_) (fun c_9 => ?_)
  · replace hwp := hwp.1 c_9
    obtain ⟨sa_3, hstr⟩ := hT.2.2.2.2.2.2.2.2 10 (145, "a packet has 1 to 1500 bytes") rfl
    exact vx_throwS (own := RX8) (cls := "java/lang/IllegalArgumentException") (text := "a packet has 1 to 1500 bytes") (names := ["java/lang/RuntimeException", "java/lang/Exception"]) (ik := 69) (is := 145) (ic := 73) (sa := sa_3) (A := A) hx hb hfl hown (by decide +kernel) (by decide +kernel) (hts (.classLink RX8 69 "java/lang/IllegalArgumentException") (by decide +kernel)) (hts (.initialized "java/lang/IllegalArgumentException") (by decide +kernel)) hstr (hatA hT hts iX8_come_A) goodA hT.1 hT.2.1 hS (hl.1.trans hml.symm) dX8_come_19 dX8_come_22 dX8_come_23 dX8_come_25 dX8_come_28 (fun x hx => (hnt x hx).elim) (Nat.le_of_ble_eq_true rfl) (Nat.le_of_ble_eq_true rfl) (Nat.le_of_ble_eq_true rfl) (Nat.le_of_ble_eq_true rfl) hlocks (xThrow (ws := Wc cA ad n) (KX := KX) hP hK hD hS hwp) hS.2.2 (Nat.le_of_ble_eq_true rfl) (Nat.le_of_ble_eq_true rfl)
  · replace hwp := hwp.2 c_9
    refine lv_iload_n hx hb dX8_come_12 rfl (lv_at hl 3 rfl) ?_
    refine lv_sipush (v := 1500) hx hb dX8_come_13 (by decide) ?_
    refine lv_icmp_le (tgt := 29) hx hb dX8_come_16 (by decide) (fun c_16 => ?_) (fun c_16 => ?_)
    · replace hwp := hwp.1 c_16
      obtain ⟨hfr, hwp⟩ := hwp
      refine va_new (ci := 5) (fs := [.int 0, .null, .int 0, .int 0, .int 0, .int 0, .int 0, .null]) (C := RX5) (T := TX5) (N := 8) hx hb hts iX8_come_5 tyX5 tyX5_ok hown (hts (.classLink RX8 147 RX5) (by decide +kernel)) (hts (.instantiable RX5 8) (by decide +kernel)) (hts (.initialized RX5) (by decide +kernel)) hK hP hD hS hA rfl (fun j hj => by rcases (show j = 0 ∨ j = 1 ∨ j = 2 ∨ j = 3 ∨ j = 4 ∨ j = 5 ∨ j = 6 ∨ j = 7 by omega) with rfl | rfl | rfl | rfl | rfl | rfl | rfl | rfl <;> rfl) (Nat.le_of_ble_eq_true rfl) (Nat.le_of_ble_eq_true rfl) dX8_come_29 (fun q5 H hP hD hS => ?_)
      obtain ⟨s4, e_s4⟩ : ∃ z, z = npk s1 n := ⟨_, rfl⟩
      obtain ⟨pk, epk⟩ : ∃ z, z = n := ⟨_, rfl⟩
      rw [wc_new hfr, ← e_s4, ← epk] at hP hD
      replace hwp := hwp s4 e_s4 pk epk
      have hq5 : q5 = up2 ad 5 pk q5 5 pk := by rw [up2_ap, if_pos ⟨rfl, rfl⟩]
      refine W.eq (g2 := F0 m 32 ls [.ref (up2 ad 5 pk q5 5 pk)]) (by rw [← hq5]) ?_
      have hl : lv_has ls 6 [(4, va_re (up2 ad 5 pk q5 2) r2), (0, .ref (up2 ad 5 pk q5 8 0)), (1, .int a1), (2, .int a2), (3, .int a3)] := hl
      clear hq5
      have had : up2 ad 5 pk q5 8 0 = ad 8 0 := rfl
      generalize up2 ad 5 pk q5 = ad at hP hD hl had ⊢
      obtain ⟨n, en⟩ : ∃ z, z = pk + 1 := ⟨_, rfl⟩
      rw [← en] at hP hD
      replace hwp := hwp n en
      refine lv_dup hx hb dX8_come_32 rfl ?_
      refine lv_aload_n hx hb dX8_come_33 rfl (lv_at hl 1 rfl) ?_
      refine va_get (D := (dC, dI)) (ci := 8) (v := .int (sI s4 133 0)) (C := RX8) (T := TX8) (N := 11) hx hb hts iX8_come_8 hown hK hP 0 atLq rfl 5 (by decide) (hts (.fieldLink RX8 40 "LinkQueues" "numbers" "I") (by decide +kernel)) (fun _ h9 => h9) rfl dX8_come_34 ?_
      refine q_aload hx hb dX8_come_37 (lv_at hl 0 rfl) ?_
      refine lv_iload_n hx hb dX8_come_39 rfl (lv_at hl 3 rfl) ?_
      refine lv_aload_n hx hb dX8_come_40 rfl (lv_at hl 1 rfl) ?_
      refine va_get (D := (dC, dI)) (ci := 8) (v := .int (sI s4 132 0)) (C := RX8) (T := TX8) (N := 11) hx hb hts iX8_come_8 hown hK hP 0 atLq rfl 4 (by decide) (hts (.fieldLink RX8 36 "LinkQueues" "now" "I") (by decide +kernel)) (fun _ h9 => h9) rfl dX8_come_41 ?_
      refine lv_iload_n hx hb dX8_come_44 rfl (lv_at hl 4 rfl) ?_
      obtain ⟨b_6, ho_7, hwp⟩ := hwp
      rw [ho_7]
      have hl : lv_has ls 6 [(4, .ref (ad 2 b_6)), (0, .ref (ad 8 0)), (1, .int a1), (2, .int a2), (3, .int a3)] := by rw [ho_7] at hl; exact hl
      obtain ⟨hb_9, hwp⟩ := hwp
      have hF := fA hD hS hA
      refine va_callv (va_runI (As := [.int (sI s4 133 0), .ref (ad 2 b_6), .int a2, .int (sI s4 132 0), .int a3]) (rest := [.ref (ad 5 pk)]) ⟨hx, hb, hml, hown, hts⟩ (c_X5_init l dC dI cA ad n s4 pk (sI s4 133 0) b_6 a2 (sI s4 132 0) a3 H.size _ hwp) (cwI 5 hts ggX8_come_X5_init rfl rfl rfl (hts (.initialized RX5) (by decide +kernel)) (hts (.methodLink RX8 149 yX5_init) (by decide +kernel)) (hts (.instanceMethod yX5_init) (by decide +kernel)) rfl (by decide +kernel) ⟨Nat.le_of_ble_eq_true rfl, Nat.le_of_ble_eq_true rfl⟩) ⟨fbC, fun U hU hW => ⟨rfl, by rw [hU], by rw [hU]; exact hP, va_K.moved hW.alike hK, hD.weaken (fun _ _ _ _ => trivial)⟩⟩ rfl rfl hl.1 rfl (lv_room (Nat.le_of_ble_eq_true rfl)) dX8_come_45 ⟨Nat.le_of_ble_eq_true rfl, Nat.le_of_ble_eq_true rfl⟩) hS (fun q _ h => hF q h) hF (fun s8 t H1 locs ht hvm hwp hB hz1 hk1 hS => ?_)
      obtain ⟨hP1, hK1, hD1⟩ := hB
      rw [ht] at hP1
      have hD2 := hD1.weaken (fun _ q _ h => hF q.1 h)
      clear hP hD
      have hP := hP1
      have hD := hD2
      clear hP1 hD1 hD2 hK1 hk1 hz1 hF
      generalize H1 = H at hP hS ⊢
      refine lv_astore (lv' := [(5, .ref (ad 5 pk)), (4, .ref (ad 2 b_6)), (0, .ref (ad 8 0)), (1, .int a1), (2, .int a2), (3, .int a3)]) hx hb dX8_come_48 hl (by decide) rfl (fun ls hl => ?_)
      refine lv_aload_n hx hb dX8_come_50 rfl (lv_at hl 2 rfl) ?_
      refine lv_dup hx hb dX8_come_51 rfl ?_
      refine va_get (D := (dC, dI)) (ci := 8) (v := .int (sI s8 133 0)) (C := RX8) (T := TX8) (N := 11) hx hb hts iX8_come_8 hown hK hP 0 atLq rfl 5 (by decide) (hts (.fieldLink RX8 40 "LinkQueues" "numbers" "I") (by decide +kernel)) (fun _ h9 => h9) rfl dX8_come_52 ?_
      refine lv_iconst (v := 1) hx hb dX8_come_55 (by decide) ?_
      refine lv_iadd hx hb dX8_come_56 ?_
      obtain ⟨s10, e_s10⟩ : ∃ z, z = upI s8 133 0 ((sI s8 133 0) + 1) := ⟨_, rfl⟩
      refine st_put (D := (dC, dI)) (ci := 8) (v := .int ((sI s8 133 0) + 1)) (ty := .int) (C := RX8) (T := TX8) (N := 11) (ws' := Wc cA ad n s10) hx hb hts iX8_come_8 tyX8 tyX8_ok nmX8 hown hK hP hD hS 0 atLq rfl 5 (by decide) (hts (.fieldLink RX8 40 "LinkQueues" "numbers" "I") (by decide +kernel)) (fun _ h9 => h9) rfl (by decide +kernel) rfl rfl (Nat.le_of_ble_eq_true rfl) dX8_come_57 (by rw [e_s10]; exact stLq_5 ((sI s8 133 0) + 1)) (fun H locs hP hD hS => ?_)
      replace hwp := hwp s10 e_s10
      refine lv_aload hx hb dX8_come_60 (lv_at hl 1 rfl) ?_
      refine lv_dup hx hb dX8_come_62 rfl ?_
      obtain ⟨hb_11, hwp⟩ := hwp
      refine va_get (D := (dC, dI)) (ci := 2) (v := .int (sI s10 40 b_6)) (C := RX2) (T := TX2) (N := 15) hx hb hts iX8_come_2 hown hK hP (7 + b_6) (atFlow hb_11) rfl 8 (by decide) (hts (.fieldLink RX8 152 "LinkQueues$Flow" "came" "I") (by decide +kernel)) (fun _ h9 => h9) rfl dX8_come_63 ?_
      refine lv_iconst (v := 1) hx hb dX8_come_66 (by decide) ?_
      refine lv_iadd hx hb dX8_come_67 ?_
      obtain ⟨s12, e_s12⟩ : ∃ z, z = upI s10 40 b_6 ((sI s10 40 b_6) + 1) := ⟨_, rfl⟩
      refine st_put (D := (dC, dI)) (ci := 2) (v := .int ((sI s10 40 b_6) + 1)) (ty := .int) (C := RX2) (T := TX2) (N := 15) (ws' := Wc cA ad n s12) hx hb hts iX8_come_2 tyX2 tyX2_ok nmX2 hown hK hP hD hS (7 + b_6) (atFlow hb_11) rfl 8 (by decide) (hts (.fieldLink RX8 152 "LinkQueues$Flow" "came" "I") (by decide +kernel)) (fun _ h9 => h9) rfl (by decide +kernel) rfl rfl (Nat.le_of_ble_eq_true rfl) dX8_come_68 (by rw [e_s12]; exact stFlow_8 hb_11 ((sI s10 40 b_6) + 1)) (fun H locs hP hD hS => ?_)
      replace hwp := hwp s12 e_s12
      refine lv_aload_n hx hb dX8_come_71 rfl (lv_at hl 2 rfl) ?_
      refine va_get (D := (dC, dI)) (ci := 8) (v := .int (sI s12 134 0)) (C := RX8) (T := TX8) (N := 11) hx hb hts iX8_come_8 hown hK hP 0 atLq rfl 6 (by decide) (hts (.fieldLink RX8 43 "LinkQueues" "waitingPackets" "I") (by decide +kernel)) (fun _ h9 => h9) rfl dX8_come_72 ?_
      refine lv_bipush (v := 100) hx hb dX8_come_75 (by decide) ?_
      refine lv_icmp_ge (tgt := 93) hx hb dX8_come_77 (by decide) (fun c_77 => ?_) (fun c_77 => ?_)
      · replace hwp := hwp.1 c_77
        refine lv_aload hx hb dX8_come_93 (lv_at hl 1 rfl) ?_
        refine lv_dup hx hb dX8_come_95 rfl ?_
        refine va_get (D := (dC, dI)) (ci := 2) (v := .int (sI s12 43 b_6)) (C := RX2) (T := TX2) (N := 15) hx hb hts iX8_come_2 hown hK hP (7 + b_6) (atFlow hb_11) rfl 11 (by decide) (hts (.fieldLink RX8 155 "LinkQueues$Flow" "lostFull" "I") (by decide +kernel)) (fun _ h9 => h9) rfl dX8_come_96 ?_
        refine lv_iconst (v := 1) hx hb dX8_come_99 (by decide) ?_
        refine lv_iadd hx hb dX8_come_100 ?_
        obtain ⟨s13, e_s13⟩ : ∃ z, z = upI s12 43 b_6 ((sI s12 43 b_6) + 1) := ⟨_, rfl⟩
        refine st_put (D := (dC, dI)) (ci := 2) (v := .int ((sI s12 43 b_6) + 1)) (ty := .int) (C := RX2) (T := TX2) (N := 15) (ws' := Wc cA ad n s13) hx hb hts iX8_come_2 tyX2 tyX2_ok nmX2 hown hK hP hD hS (7 + b_6) (atFlow hb_11) rfl 11 (by decide) (hts (.fieldLink RX8 155 "LinkQueues$Flow" "lostFull" "I") (by decide +kernel)) (fun _ h9 => h9) rfl (by decide +kernel) rfl rfl (Nat.le_of_ble_eq_true rfl) dX8_come_101 (by rw [e_s13]; exact stFlow_11 hb_11 ((sI s12 43 b_6) + 1)) (fun H locs hP hD hS => ?_)
        replace hwp := hwp s13 e_s13
        refine lv_iconst (v := (-1)) hx hb dX8_come_104 (by decide) ?_
        refine vx_ret ?_
        refine W.widen (k := 2) (n := 14) (Nat.le_of_ble_eq_true rfl) (Nat.le_of_ble_eq_true rfl) ?_
        exact W.iret (v := (-1)) hx hb hr (fun t ht hW => ⟨⟨(-1), (s13, ad, n), rfl, hwp, ⟨by rw [ht]; exact hP, va_K.moved hW.alike hK, hD⟩, had⟩, hS.F ht⟩) hS.2.2 dX8_come_105
      · replace hwp := hwp.2 c_77
        refine lv_aload_n hx hb dX8_come_80 rfl (lv_at hl 2 rfl) ?_
        refine va_get (D := (dC, dI)) (ci := 8) (v := .int (sI s12 135 0)) (C := RX8) (T := TX8) (N := 11) hx hb hts iX8_come_8 hown hK hP 0 atLq rfl 7 (by decide) (hts (.fieldLink RX8 46 "LinkQueues" "waitingBytes" "I") (by decide +kernel)) (fun _ h9 => h9) rfl dX8_come_81 ?_
        refine lv_iload_n hx hb dX8_come_84 rfl (lv_at hl 4 rfl) ?_
        refine lv_iadd hx hb dX8_come_85 ?_
        refine lv_aload_n hx hb dX8_come_86 rfl (lv_at hl 2 rfl) ?_
        refine va_get (D := (dC, dI)) (ci := 8) (v := .int (sI s12 136 0)) (C := RX8) (T := TX8) (N := 11) hx hb hts iX8_come_8 hown hK hP 0 atLq rfl 8 (by decide) (hts (.fieldLink RX8 50 "LinkQueues" "limit" "I") (by decide +kernel)) (fun _ h9 => h9) rfl dX8_come_87 ?_
        refine lv_icmp_le (tgt := 106) hx hb dX8_come_90 (by decide) (fun c_90 => ?_) (fun c_90 => ?_)
        · replace hwp := hwp.1 c_90
          refine lv_aload hx hb dX8_come_106 (lv_at hl 1 rfl) ?_
          refine lv_aload hx hb dX8_come_108 (lv_at hl 0 rfl) ?_
          refine lv_aload_n hx hb dX8_come_110 rfl (lv_at hl 2 rfl) ?_
          refine va_get (D := (dC, dI)) (ci := 8) (v := .int (sI s12 132 0)) (C := RX8) (T := TX8) (N := 11) hx hb hts iX8_come_8 hown hK hP 0 atLq rfl 4 (by decide) (hts (.fieldLink RX8 36 "LinkQueues" "now" "I") (by decide +kernel)) (fun _ h9 => h9) rfl dX8_come_111 ?_
          refine lv_aload_n hx hb dX8_come_114 rfl (lv_at hl 2 rfl) ?_
          refine va_get (D := (dC, dI)) (ci := 8) (v := .ref (ad 0 0)) (C := RX8) (T := TX8) (N := 11) hx hb hts iX8_come_8 hown hK hP 0 atLq rfl 2 (by decide) (hts (.fieldLink RX8 25 "LinkQueues" "coins" "LLinkQueues$Coins;") (by decide +kernel)) (fun _ h9 => h9) rfl dX8_come_115 ?_
          have hF := fA hD hS hA
          refine va_calli (va_runV (As := [.ref (ad 5 pk), .int (sI s12 132 0), .ref (ad 0 0)]) (rest := []) ⟨hx, hb, hml, hown, hts⟩ (c_X2_letsIn l dC dI cA ad n s12 b_6 pk (sI s12 132 0) H.size _ hwp) (cwV 3 hts gX8_come_X2_letsIn rfl rfl rfl (by decide +kernel) ⟨Nat.le_of_ble_eq_true rfl, Nat.le_of_ble_eq_true rfl⟩) ⟨fbC, va_recv hK hP (ci := 2) (q0 := (7 + b_6)) rfl (atFlow hb_11), fun U hU hW => ⟨rfl, by rw [hU], by rw [hU]; exact hP, va_K.moved hW.alike hK, hD.weaken (fun _ _ _ _ => trivial)⟩⟩ rfl rfl hl.1 rfl (lv_room (Nat.le_of_ble_eq_true rfl)) dX8_come_118 ⟨Nat.le_of_ble_eq_true rfl, Nat.le_of_ble_eq_true rfl⟩) hS (fun q _ h => hF q h) hF (fun r15 s14 t H1 locs ht hvm hwp hB hz1 hk1 hS => ?_)
          obtain ⟨hP1, hK1, hD1⟩ := hB
          rw [ht] at hP1
          have hD2 := hD1.weaken (fun _ q _ h => hF q.1 h)
          clear hP hD
          have hP := hP1
          have hD := hD2
          clear hP1 hD1 hD2 hK1 hk1 hz1 hF
          generalize H1 = H at hP hS ⊢
          refine lv_if_ne (tgt := 137) hx hb dX8_come_121 (by decide) (fun c_121 => ?_) (fun c_121 => ?_)
          · replace hwp := hwp.1 c_121
            refine lv_aload_n hx hb dX8_come_137 rfl (lv_at hl 2 rfl) ?_
            refine lv_aload hx hb dX8_come_138 (lv_at hl 0 rfl) ?_
            have hF := fA hD hS hA
            refine va_callv (va_runV (As := [.ref (ad 5 pk)]) (rest := []) ⟨hx, hb, hml, hown, hts⟩ (c_X8_putIn l dC dI cA ad n s14 pk H.size _ hwp) (cwV 1 hts gX8_come_X8_putIn rfl rfl rfl (by decide +kernel) ⟨Nat.le_of_ble_eq_true rfl, Nat.le_of_ble_eq_true rfl⟩) ⟨fbC, va_recv hK hP (ci := 8) (q0 := 0) rfl atLq, fun U hU hW => ⟨rfl, by rw [hU], by rw [hU]; exact hP, va_K.moved hW.alike hK, hD.weaken (fun _ _ _ _ => trivial)⟩⟩ rfl rfl hl.1 rfl (lv_room (Nat.le_of_ble_eq_true rfl)) dX8_come_140 ⟨Nat.le_of_ble_eq_true rfl, Nat.le_of_ble_eq_true rfl⟩) hS (fun q _ h => hF q h) hF (fun s16 t H1 locs ht hvm hwp hB hz1 hk1 hS => ?_)
            obtain ⟨hP1, hK1, hD1⟩ := hB
            rw [ht] at hP1
            have hD2 := hD1.weaken (fun _ q _ h => hF q.1 h)
            clear hP hD
            have hP := hP1
            have hD := hD2
            clear hP1 hD1 hD2 hK1 hk1 hz1 hF
            generalize H1 = H at hP hS ⊢
            refine lv_aload hx hb dX8_come_143 (lv_at hl 0 rfl) ?_
            refine va_get (D := (dC, dI)) (ci := 5) (v := .int (sI s16 80 pk)) (C := RX5) (T := TX5) (N := 8) hx hb hts iX8_come_5 hown hK hP (31 + pk) (atPacket hb_9) rfl 0 (by decide) (hts (.fieldLink RX8 169 "LinkQueues$Packet" "number" "I") (by decide +kernel)) (fun _ h9 => h9) rfl dX8_come_145 ?_
            refine vx_ret ?_
            refine W.widen (k := 2) (n := 14) (Nat.le_of_ble_eq_true rfl) (Nat.le_of_ble_eq_true rfl) ?_
            exact W.iret (v := (sI s16 80 pk)) hx hb hr (fun t ht hW => ⟨⟨(sI s16 80 pk), (s16, ad, n), rfl, hwp, ⟨by rw [ht]; exact hP, va_K.moved hW.alike hK, hD⟩, had⟩, hS.F ht⟩) hS.2.2 dX8_come_148
          · replace hwp := hwp.2 c_121
            refine lv_aload hx hb dX8_come_124 (lv_at hl 1 rfl) ?_
            refine lv_dup hx hb dX8_come_126 rfl ?_
            refine va_get (D := (dC, dI)) (ci := 2) (v := .int (sI s14 44 b_6)) (C := RX2) (T := TX2) (N := 15) hx hb hts iX8_come_2 hown hK hP (7 + b_6) (atFlow hb_11) rfl 12 (by decide) (hts (.fieldLink RX8 162 "LinkQueues$Flow" "lostMean" "I") (by decide +kernel)) (fun _ h9 => h9) rfl dX8_come_127 ?_
            refine lv_iconst (v := 1) hx hb dX8_come_130 (by decide) ?_
            refine lv_iadd hx hb dX8_come_131 ?_
            obtain ⟨s17, e_s17⟩ : ∃ z, z = upI s14 44 b_6 ((sI s14 44 b_6) + 1) := ⟨_, rfl⟩
            refine st_put (D := (dC, dI)) (ci := 2) (v := .int ((sI s14 44 b_6) + 1)) (ty := .int) (C := RX2) (T := TX2) (N := 15) (ws' := Wc cA ad n s17) hx hb hts iX8_come_2 tyX2 tyX2_ok nmX2 hown hK hP hD hS (7 + b_6) (atFlow hb_11) rfl 12 (by decide) (hts (.fieldLink RX8 162 "LinkQueues$Flow" "lostMean" "I") (by decide +kernel)) (fun _ h9 => h9) rfl (by decide +kernel) rfl rfl (Nat.le_of_ble_eq_true rfl) dX8_come_132 (by rw [e_s17]; exact stFlow_12 hb_11 ((sI s14 44 b_6) + 1)) (fun H locs hP hD hS => ?_)
            replace hwp := hwp s17 e_s17
            refine lv_iconst (v := (-1)) hx hb dX8_come_135 (by decide) ?_
            refine vx_ret ?_
            refine W.widen (k := 2) (n := 14) (Nat.le_of_ble_eq_true rfl) (Nat.le_of_ble_eq_true rfl) ?_
            exact W.iret (v := (-1)) hx hb hr (fun t ht hW => ⟨⟨(-1), (s17, ad, n), rfl, hwp, ⟨by rw [ht]; exact hP, va_K.moved hW.alike hK, hD⟩, had⟩, hS.F ht⟩) hS.2.2 dX8_come_136
        · replace hwp := hwp.2 c_90
          refine lv_aload hx hb dX8_come_93 (lv_at hl 1 rfl) ?_
          refine lv_dup hx hb dX8_come_95 rfl ?_
          refine va_get (D := (dC, dI)) (ci := 2) (v := .int (sI s12 43 b_6)) (C := RX2) (T := TX2) (N := 15) hx hb hts iX8_come_2 hown hK hP (7 + b_6) (atFlow hb_11) rfl 11 (by decide) (hts (.fieldLink RX8 155 "LinkQueues$Flow" "lostFull" "I") (by decide +kernel)) (fun _ h9 => h9) rfl dX8_come_96 ?_
          refine lv_iconst (v := 1) hx hb dX8_come_99 (by decide) ?_
          refine lv_iadd hx hb dX8_come_100 ?_
          obtain ⟨s18, e_s18⟩ : ∃ z, z = upI s12 43 b_6 ((sI s12 43 b_6) + 1) := ⟨_, rfl⟩
          refine st_put (D := (dC, dI)) (ci := 2) (v := .int ((sI s12 43 b_6) + 1)) (ty := .int) (C := RX2) (T := TX2) (N := 15) (ws' := Wc cA ad n s18) hx hb hts iX8_come_2 tyX2 tyX2_ok nmX2 hown hK hP hD hS (7 + b_6) (atFlow hb_11) rfl 11 (by decide) (hts (.fieldLink RX8 155 "LinkQueues$Flow" "lostFull" "I") (by decide +kernel)) (fun _ h9 => h9) rfl (by decide +kernel) rfl rfl (Nat.le_of_ble_eq_true rfl) dX8_come_101 (by rw [e_s18]; exact stFlow_11 hb_11 ((sI s12 43 b_6) + 1)) (fun H locs hP hD hS => ?_)
          replace hwp := hwp s18 e_s18
          refine lv_iconst (v := (-1)) hx hb dX8_come_104 (by decide) ?_
          refine vx_ret ?_
          refine W.widen (k := 2) (n := 14) (Nat.le_of_ble_eq_true rfl) (Nat.le_of_ble_eq_true rfl) ?_
          exact W.iret (v := (-1)) hx hb hr (fun t ht hW => ⟨⟨(-1), (s18, ad, n), rfl, hwp, ⟨by rw [ht]; exact hP, va_K.moved hW.alike hK, hD⟩, had⟩, hS.F ht⟩) hS.2.2 dX8_come_105
    · replace hwp := hwp.2 c_16
      obtain ⟨sa_19, hstr⟩ := hT.2.2.2.2.2.2.2.2 10 (145, "a packet has 1 to 1500 bytes") rfl
      exact vx_throwS (own := RX8) (cls := "java/lang/IllegalArgumentException") (text := "a packet has 1 to 1500 bytes") (names := ["java/lang/RuntimeException", "java/lang/Exception"]) (ik := 69) (is := 145) (ic := 73) (sa := sa_19) (A := A) hx hb hfl hown (by decide +kernel) (by decide +kernel) (hts (.classLink RX8 69 "java/lang/IllegalArgumentException") (by decide +kernel)) (hts (.initialized "java/lang/IllegalArgumentException") (by decide +kernel)) hstr (hatA hT hts iX8_come_A) goodA hT.1 hT.2.1 hS (hl.1.trans hml.symm) dX8_come_19 dX8_come_22 dX8_come_23 dX8_come_25 dX8_come_28 (fun x hx => (hnt x hx).elim) (Nat.le_of_ble_eq_true rfl) (Nat.le_of_ble_eq_true rfl) (Nat.le_of_ble_eq_true rfl) (Nat.le_of_ble_eq_true rfl) hlocks (xThrow (ws := Wc cA ad n) (KX := KX) hP hK hD hS hwp) hS.2.2 (Nat.le_of_ble_eq_true rfl) (Nat.le_of_ble_eq_true rfl)
def wp_X8_tick_L26 (n : Nat) (a1 : Int32) (K : Int32 → ST → Prop) (KX : String → ST → Prop) : Nat → ST → Int32 → Int32 → Prop
  | 0 => fun _ _ _ => False
  | fu26 + 1 => fun z26 x3_26 x2_26 => ((a1 ≤ x3_26 → (K x2_26 z26)) ∧ (¬ (a1 ≤ x3_26) → (wp_X8_oneTick n z26 (fun r3 s2 =>
wp_X8_tick_L26 n a1 K KX fu26 s2 (x3_26 + 1) (x2_26 + r3)
))))
def wp_X8_tick (n : Nat) (σ : ST) (a1 : Int32) (K : Int32 → ST → Prop) (KX : String → ST → Prop) : Prop := ((a1 < 1 → (KX "java/lang/IllegalArgumentException" σ)) ∧ (¬ (a1 < 1) → (((a1 ≤ 1000 → (∃ n26, wp_X8_tick_L26 n a1 K KX n26 σ 0 0)) ∧ (¬ (a1 ≤ 1000) → (KX "java/lang/IllegalArgumentException" σ))))))
theorem iX8_tick_A : ∀ w ∈ (vx_atS RX8 73 "java/lang/IllegalArgumentException" ["java/lang/RuntimeException", "java/lang/Exception"]).filter goodWord, w ∈ wsX8_tick := fun _ h => List.mem_cons_of_mem _ (List.mem_append_right _ h)
set_option maxHeartbeats 8000000 in
set_option maxRecDepth 100000 in
theorem c_X8_tick (l : Launch) (hfl : l.stackTraces = false) (dC : Nat → ClassId) (dI : Nat → Nat → Nat) (cA : Nat → ClassId) (ad : Nat → Nat → Nat) (n : Nat) (σ : ST) (a1 : Int32) (sz : Nat) (K : Int32 → ST → Prop) (KX : String → ST → Prop) (hwp : wp_X8_tick n σ a1 K KX) : vx_Met l yX8_tick wsX8_tick ({ frames := 6, cells := 2, slots := 12, locals := 135 } : Room) (va_Pc [.ref (ad 8 0), .int a1] (preX dC dI cA (Wc cA ad n σ) sz)) (va_Qi K (atC dC dI cA (Wc cA ad n) (va_A (Wc cA ad n σ) sz)) (va_A (Wc cA ad n σ) sz)) (xQ dC dI cA (Wc cA ad n) KX (va_A (Wc cA ad n σ) sz)) 2 12 (va_A (Wc cA ad n σ) sz) := by
  refine vx_ofW (cc := cX8_tick) (maxL := 4) (ret := (some .int)) (by decide) rfl ?_
  intro p e s m args below meth c s₁ B hml hnt hv
  obtain ⟨rfl, ⟨hsz, hP, hK, hD0⟩, hT⟩ := hv
  have hx := B.exec
  have hb := B.bytes
  have hr := B.returns
  have hts := atoms_spec (ws := wsX8_tick) B.pre
  have hown : s.vm.findClass RX8 = some m.cls := findClass_of_methodNamed B.named
  have hlocks := B.notSynchronized
  subst hsz
  have hD := hD0.self (sz := s.heap.size)
  clear hD0
  generalize hAe : va_A (Wc cA ad n σ) s.heap.size = A at hD hT ⊢
  have hA : ∀ q : Nat, s.heap.size ≤ q → A q := fun q h => by rw [← hAe]; exact Or.inr h
  have hS : va_S A s.heap s.heap [] := va_S.rf
  have hkc : 0 ≤ 0 := Nat.le_refl 0
  have hks : 0 ≤ 0 := Nat.le_refl 0
  have hl := lv_entry ([.ref (ad 8 0), .int a1]) (n := 4) (Nat.le_of_ble_eq_true rfl)
  rw [lg_entry_eq]
  generalize (lg_sl ([.ref (ad 8 0), .int a1]) ++ List.replicate (4 - (lg_sl ([.ref (ad 8 0), .int a1])).length) Slot.unset).toArray = ls at hl ⊢
  have hl : lv_has ls 4 [(0, .ref (ad 8 0)), (1, .int a1)] := hl
  unfold wp_X8_tick at hwp
  generalize hHe : s.heap = H at hP ⊢
  have hS : va_S A s.heap H [] := by rw [← hHe]; exact va_S.rf
  clear hHe
  refine lv_iload_n hx hb dX8_tick_0 rfl (lv_at hl 1 rfl) ?_
  refine lv_iconst (v := 1) hx hb dX8_tick_1 (by decide) ?_
  refine lv_icmp_lt (tgt := 12) hx hb dX8_tick_2 (by decide) (fun c_2 => ?_) (fun c_2 => ?_)
  · replace hwp := hwp.1 c_2
    obtain ⟨sa_1, hstr⟩ := hT.2.2.2.2.2.2.2.2 11 (172, "1 to 1000 ticks") rfl
    exact vx_throwS (own := RX8) (cls := "java/lang/IllegalArgumentException") (text := "1 to 1000 ticks") (names := ["java/lang/RuntimeException", "java/lang/Exception"]) (ik := 69) (is := 172) (ic := 73) (sa := sa_1) (A := A) hx hb hfl hown (by decide +kernel) (by decide +kernel) (hts (.classLink RX8 69 "java/lang/IllegalArgumentException") (by decide +kernel)) (hts (.initialized "java/lang/IllegalArgumentException") (by decide +kernel)) hstr (hatA hT hts iX8_tick_A) goodA hT.1 hT.2.1 hS (hl.1.trans hml.symm) dX8_tick_12 dX8_tick_15 dX8_tick_16 dX8_tick_18 dX8_tick_21 (fun x hx => (hnt x hx).elim) (Nat.le_of_ble_eq_true rfl) (Nat.le_of_ble_eq_true rfl) (Nat.le_of_ble_eq_true rfl) (Nat.le_of_ble_eq_true rfl) hlocks (xThrow (ws := Wc cA ad n) (KX := KX) hP hK hD hS hwp) hS.2.2 (Nat.le_of_ble_eq_true rfl) (Nat.le_of_ble_eq_true rfl)
  · replace hwp := hwp.2 c_2
    refine lv_iload_n hx hb dX8_tick_5 rfl (lv_at hl 1 rfl) ?_
    refine lv_sipush (v := 1000) hx hb dX8_tick_6 (by decide) ?_
    refine lv_icmp_le (tgt := 22) hx hb dX8_tick_9 (by decide) (fun c_9 => ?_) (fun c_9 => ?_)
    · replace hwp := hwp.1 c_9
      refine lv_iconst (v := 0) hx hb dX8_tick_22 (by decide) ?_
      refine lv_istore_n (lv' := [(2, .int 0), (0, .ref (ad 8 0)), (1, .int a1)]) hx hb dX8_tick_23 rfl hl (by decide) rfl (fun ls hl => ?_)
      refine lv_iconst (v := 0) hx hb dX8_tick_24 (by decide) ?_
      refine lv_istore_n (lv' := [(3, .int 0), (2, .int 0), (0, .ref (ad 8 0)), (1, .int a1)]) hx hb dX8_tick_25 rfl hl (by decide) rfl (fun ls hl => ?_)
      obtain ⟨n26, hwp⟩ := hwp
      have L26 : ∀ (fu26 : Nat) (z26 : ST) (x3_26 : Int32) (x2_26 : Int32), wp_X8_tick_L26 n a1 K KX fu26 z26 x3_26 x2_26 → ∀ (H : Heap) (locs : List Loc) (ls : Array Slot), va_P (dC, dI) vwCl (Wc cA ad n z26) H → va_D A (Wc cA ad n z26) → va_S A s.heap H locs → lv_has ls 4 [(3, .int x3_26), (2, .int x2_26), (0, .ref (ad 8 0)), (1, .int a1)] → W p l e ({ frames := 6, cells := 2, slots := 12, locals := 135 } : Room) s m (([.ref (ad 8 0), .int a1] : List Value).toArray) below meth c H locs 0 0 (vx_MQ below (va_Qi K (atC dC dI cA (Wc cA ad n) A) A) (xQ dC dI cA (Wc cA ad n) KX A) (([.ref (ad 8 0), .int a1] : List Value).toArray) s 2 12 A) (F0 m 26 ls []) := by
        intro fu26
        induction fu26 with
        | zero => intro z26 x3_26 x2_26 h; exact h.elim
        | succ fu26 ih26 =>
          intro z26 x3_26 x2_26 hwp H locs ls hP hD hS hl
          refine lv_iload_n hx hb dX8_tick_26 rfl (lv_at hl 0 rfl) ?_
          refine lv_iload_n hx hb dX8_tick_27 rfl (lv_at hl 3 rfl) ?_
          refine lv_icmp_ge (tgt := 44) hx hb dX8_tick_28 (by decide) (fun c_28 => ?_) (fun c_28 => ?_)
          · replace hwp := hwp.1 c_28
            refine lv_iload_n hx hb dX8_tick_44 rfl (lv_at hl 1 rfl) ?_
            refine vx_ret ?_
            refine W.widen (k := 2) (n := 12) (Nat.le_of_ble_eq_true rfl) (Nat.le_of_ble_eq_true rfl) ?_
            exact W.iret (v := x2_26) hx hb hr (fun t ht hW => ⟨⟨x2_26, z26, rfl, hwp, by rw [ht]; exact hP, va_K.moved hW.alike hK, hD⟩, hS.F ht⟩) hS.2.2 dX8_tick_45
          · replace hwp := hwp.2 c_28
            refine lv_iload_n hx hb dX8_tick_31 rfl (lv_at hl 1 rfl) ?_
            refine lv_aload_n hx hb dX8_tick_32 rfl (lv_at hl 2 rfl) ?_
            have hF := fA hD hS hA
            refine va_calli (va_runV (As := []) (rest := [.int x2_26]) ⟨hx, hb, hml, hown, hts⟩ (c_X8_oneTick l dC dI cA ad n z26 H.size _ hwp) (cwV 0 hts gX8_tick_X8_oneTick rfl rfl rfl (by decide +kernel) ⟨Nat.le_of_ble_eq_true rfl, Nat.le_of_ble_eq_true rfl⟩) ⟨fbC, va_recv hK hP (ci := 8) (q0 := 0) rfl atLq, fun U hU hW => ⟨rfl, by rw [hU], by rw [hU]; exact hP, va_K.moved hW.alike hK, hD.weaken (fun _ _ _ _ => trivial)⟩⟩ rfl rfl hl.1 rfl (lv_room (Nat.le_of_ble_eq_true rfl)) dX8_tick_33 ⟨Nat.le_of_ble_eq_true rfl, Nat.le_of_ble_eq_true rfl⟩) hS (fun q _ h => hF q h) hF (fun r3 s2 t H1 locs ht hvm hwp hB hz1 hk1 hS => ?_)
            obtain ⟨hP1, hK1, hD1⟩ := hB
            rw [ht] at hP1
            have hD2 := hD1.weaken (fun _ q _ h => hF q.1 h)
            clear hP hD
            have hP := hP1
            have hD := hD2
            clear hP1 hD1 hD2 hK1 hk1 hz1 hF
            generalize H1 = H at hP hS ⊢
            refine lv_iadd hx hb dX8_tick_36 ?_
            refine lv_istore_n (lv' := [(2, .int (x2_26 + r3)), (3, .int x3_26), (0, .ref (ad 8 0)), (1, .int a1)]) hx hb dX8_tick_37 rfl hl (by decide) rfl (fun ls hl => ?_)
            refine lv_iinc (v := (x3_26 + 1)) (lv' := [(3, .int (x3_26 + 1)), (2, .int (x2_26 + r3)), (0, .ref (ad 8 0)), (1, .int a1)]) hx hb dX8_tick_38 hl (k := 1) rfl rfl (by decide) rfl (fun ls hl => ?_)
            refine lv_goto (tgt := 26) hx hb dX8_tick_41 (by decide) ?_
            exact ih26 s2 (x3_26 + 1) (x2_26 + r3) hwp _ _ _ hP hD hS (lv_sub hl [0, 1, 2, 3] rfl)
      exact L26 n26 σ 0 0 hwp _ _ _ hP hD hS (lv_sub hl [0, 1, 2, 3] rfl)
    · replace hwp := hwp.2 c_9
      obtain ⟨sa_4, hstr⟩ := hT.2.2.2.2.2.2.2.2 11 (172, "1 to 1000 ticks") rfl
      exact vx_throwS (own := RX8) (cls := "java/lang/IllegalArgumentException") (text := "1 to 1000 ticks") (names := ["java/lang/RuntimeException", "java/lang/Exception"]) (ik := 69) (is := 172) (ic := 73) (sa := sa_4) (A := A) hx hb hfl hown (by decide +kernel) (by decide +kernel) (hts (.classLink RX8 69 "java/lang/IllegalArgumentException") (by decide +kernel)) (hts (.initialized "java/lang/IllegalArgumentException") (by decide +kernel)) hstr (hatA hT hts iX8_tick_A) goodA hT.1 hT.2.1 hS (hl.1.trans hml.symm) dX8_tick_12 dX8_tick_15 dX8_tick_16 dX8_tick_18 dX8_tick_21 (fun x hx => (hnt x hx).elim) (Nat.le_of_ble_eq_true rfl) (Nat.le_of_ble_eq_true rfl) (Nat.le_of_ble_eq_true rfl) (Nat.le_of_ble_eq_true rfl) hlocks (xThrow (ws := Wc cA ad n) (KX := KX) hP hK hD hS hwp) hS.2.2 (Nat.le_of_ble_eq_true rfl) (Nat.le_of_ble_eq_true rfl)
def wp_X8_count (n : Nat) (σ : ST) (a1 : Int32) (a2 : Int32) (K : Int32 → ST → Prop) (KX : String → ST → Prop) : Prop := wp_X8_flowAt n σ a1 (fun r2 s1 =>
((a2.toInt < 0 ∨ 9 < a2.toInt → (KX "java/lang/IllegalArgumentException" s1)) ∧ (a2 = 0 → (∃ b_5, r2 = some b_5 ∧
b_5 < 6 ∧
K (sI s1 40 b_5) s1)) ∧ (a2 = 1 → (∃ b_8, r2 = some b_8 ∧
b_8 < 6 ∧
K (sI s1 41 b_8) s1)) ∧ (a2 = 2 → (∃ b_11, r2 = some b_11 ∧
b_11 < 6 ∧
K (sI s1 43 b_11) s1)) ∧ (a2 = 3 → (∃ b_14, r2 = some b_14 ∧
b_14 < 6 ∧
K (sI s1 44 b_14) s1)) ∧ (a2 = 4 → (∃ b_17, r2 = some b_17 ∧
b_17 < 6 ∧
K (sI s1 45 b_17) s1)) ∧ (a2 = 5 → (∃ b_20, r2 = some b_20 ∧
b_20 < 6 ∧
K (sI s1 46 b_20) s1)) ∧ (a2 = 6 → (∃ b_23, r2 = some b_23 ∧
b_23 < 6 ∧
b_23 < 6 ∧
K (sI s1 98 b_23) s1)) ∧ (a2 = 7 → (∃ b_27, r2 = some b_27 ∧
b_27 < 6 ∧
b_27 < 6 ∧
K (sI s1 99 b_27) s1)) ∧ (a2 = 8 → (∃ b_31, r2 = some b_31 ∧
b_31 < 6 ∧
K (sI s1 42 b_31) s1)) ∧ (a2 = 9 → (∃ b_34, r2 = some b_34 ∧
b_34 < 6 ∧
K (sI s1 38 b_34) s1)))
) KX
set_option maxRecDepth 20000 in
theorem iX8_count_2 : ∀ w ∈ wsX20, w ∈ wsX8_count := by decide +kernel
set_option maxRecDepth 20000 in
theorem iX8_count_6 : ∀ w ∈ wsX60, w ∈ wsX8_count := by decide +kernel
theorem iX8_count_A : ∀ w ∈ (vx_atS RX8 73 "java/lang/IllegalArgumentException" ["java/lang/RuntimeException", "java/lang/Exception"]).filter goodWord, w ∈ wsX8_count := fun _ h => List.mem_cons_of_mem _ (List.mem_append_right _ h)
set_option maxHeartbeats 8000000 in
set_option maxRecDepth 100000 in
theorem c_X8_count (l : Launch) (hfl : l.stackTraces = false) (dC : Nat → ClassId) (dI : Nat → Nat → Nat) (cA : Nat → ClassId) (ad : Nat → Nat → Nat) (n : Nat) (σ : ST) (a1 : Int32) (a2 : Int32) (sz : Nat) (K : Int32 → ST → Prop) (KX : String → ST → Prop) (hwp : wp_X8_count n σ a1 a2 K KX) : vx_Met l yX8_count wsX8_count ({ frames := 7, cells := 2, slots := 12, locals := 112 } : Room) (va_Pc [.ref (ad 8 0), .int a1, .int a2] (preX dC dI cA (Wc cA ad n σ) sz)) (va_Qi K (atC dC dI cA (Wc cA ad n) (va_A (Wc cA ad n σ) sz)) (va_A (Wc cA ad n σ) sz)) (xQ dC dI cA (Wc cA ad n) KX (va_A (Wc cA ad n σ) sz)) 2 12 (va_A (Wc cA ad n σ) sz) := by
  refine vx_ofW (cc := cX8_count) (maxL := 4) (ret := (some .int)) (by decide) rfl ?_
  intro p e s m args below meth c s₁ B hml hnt hv
  obtain ⟨rfl, ⟨hsz, hP, hK, hD0⟩, hT⟩ := hv
  have hx := B.exec
  have hb := B.bytes
  have hr := B.returns
  have hts := atoms_spec (ws := wsX8_count) B.pre
  have hown : s.vm.findClass RX8 = some m.cls := findClass_of_methodNamed B.named
  have hlocks := B.notSynchronized
  subst hsz
  have hD := hD0.self (sz := s.heap.size)
  clear hD0
  generalize hAe : va_A (Wc cA ad n σ) s.heap.size = A at hD hT ⊢
  have hA : ∀ q : Nat, s.heap.size ≤ q → A q := fun q h => by rw [← hAe]; exact Or.inr h
  have hS : va_S A s.heap s.heap [] := va_S.rf
  have hkc : 0 ≤ 0 := Nat.le_refl 0
  have hks : 0 ≤ 0 := Nat.le_refl 0
  have hl := lv_entry ([.ref (ad 8 0), .int a1, .int a2]) (n := 4) (Nat.le_of_ble_eq_true rfl)
  rw [lg_entry_eq]
  generalize (lg_sl ([.ref (ad 8 0), .int a1, .int a2]) ++ List.replicate (4 - (lg_sl ([.ref (ad 8 0), .int a1, .int a2])).length) Slot.unset).toArray = ls at hl ⊢
  have hl : lv_has ls 4 [(0, .ref (ad 8 0)), (1, .int a1), (2, .int a2)] := hl
  unfold wp_X8_count at hwp
  generalize hHe : s.heap = H at hP ⊢
  have hS : va_S A s.heap H [] := by rw [← hHe]; exact va_S.rf
  clear hHe
  refine lv_aload_n hx hb dX8_count_0 rfl (lv_at hl 0 rfl) ?_
  refine lv_iload_n hx hb dX8_count_1 rfl (lv_at hl 1 rfl) ?_
  have hF := fA hD hS hA
  refine vx_calle (vx_runV (As := [.int a1]) (rest := []) ⟨hx, hb, hml, hown, hts⟩ (c_X8_flowAt l hfl dC dI cA ad n σ a1 H.size _ _ hwp) (cwV 1 hts gX8_count_X8_flowAt rfl rfl rfl (by decide +kernel) ⟨Nat.le_of_ble_eq_true rfl, Nat.le_of_ble_eq_true rfl⟩) ⟨fbX, va_recv hK hP (ci := 8) (q0 := 0) rfl atLq, fun U hU hW => ⟨rfl, ⟨by rw [hU], by rw [hU]; exact hP, va_K.moved hW.alike hK, hD.weaken (fun _ _ _ _ => trivial)⟩, hT.move hW hS hU hF⟩⟩ rfl rfl hl.1 rfl (lv_room (Nat.le_of_ble_eq_true rfl)) dX8_count_2 ⟨Nat.le_of_ble_eq_true rfl, Nat.le_of_ble_eq_true rfl⟩) hS (fun q _ h => hF q h) hF (fun q _ h => hF q h) (fun E ce q9 u t H1 locs ht hvm hpx hBX hz1 hk1 hS1 hce hcv hcl => ?_) (fun r2 s1 t H1 locs ht hvm hwp hB hz1 hk1 hS => ?_)
  · exact vx_out (fun x hx => (hnt x hx).elim) hlocks hce hcv hcl (xPass hS1 hpx hBX ht hvm hF) hS1.2.2 (Nat.le_of_ble_eq_true rfl) (Nat.le_of_ble_eq_true rfl)
  obtain ⟨hP1, hK1, hD1⟩ := hB
  rw [ht] at hP1
  have hD2 := hD1.weaken (fun _ q _ h => hF q.1 h)
  clear hP hD
  have hP := hP1
  have hD := hD2
  clear hP1 hD1 hD2 hK1 hk1 hz1 hF
  generalize H1 = H at hP hS ⊢
  refine q_astore_n (lv' := [(3, va_re (ad 2) r2), (0, .ref (ad 8 0)), (1, .int a1), (2, .int a2)]) hx hb dX8_count_5 rfl hl (by decide) rfl (fun ls hl => ?_)
  refine lv_iload_n hx hb dX8_count_6 rfl (lv_at hl 3 rfl) ?_
  rcases sw9 a2 with hw_3 | hw_3 | hw_3 | hw_3 | hw_3 | hw_3 | hw_3 | hw_3 | hw_3 | hw_3 | hw_3
  · replace hwp := hwp.1 hw_3
    refine lv_tableOut (tgt := 116) hx hb dX8_count_7 hw_3 (by decide) ?_
    obtain ⟨sa_4, hstr⟩ := hT.2.2.2.2.2.2.2.2 12 (204, "what is counted is 0 to 9") rfl
    exact vx_throwS (own := RX8) (cls := "java/lang/IllegalArgumentException") (text := "what is counted is 0 to 9") (names := ["java/lang/RuntimeException", "java/lang/Exception"]) (ik := 69) (is := 204) (ic := 73) (sa := sa_4) (A := A) hx hb hfl hown (by decide +kernel) (by decide +kernel) (hts (.classLink RX8 69 "java/lang/IllegalArgumentException") (by decide +kernel)) (hts (.initialized "java/lang/IllegalArgumentException") (by decide +kernel)) hstr (hatA hT hts iX8_count_A) goodA hT.1 hT.2.1 hS (hl.1.trans hml.symm) dX8_count_116 dX8_count_119 dX8_count_120 dX8_count_122 dX8_count_125 (fun x hx => (hnt x hx).elim) (Nat.le_of_ble_eq_true rfl) (Nat.le_of_ble_eq_true rfl) (Nat.le_of_ble_eq_true rfl) (Nat.le_of_ble_eq_true rfl) hlocks (xThrow (ws := Wc cA ad n) (KX := KX) hP hK hD hS hwp) hS.2.2 (Nat.le_of_ble_eq_true rfl) (Nat.le_of_ble_eq_true rfl)
  · replace hwp := hwp.2.1 hw_3
    refine lv_tableIn (off := 53) (tgt := 60) hx hb dX8_count_7 (by rw [hw_3]; decide) (by rw [hw_3]; decide) (by rw [hw_3]; rfl) (by decide) ?_
    refine q_aload_n hx hb dX8_count_60 rfl (lv_at hl 0 rfl) ?_
    obtain ⟨b_5, ho_6, hwp⟩ := hwp
    rw [ho_6]
    have hl : lv_has ls 4 [(3, .ref (ad 2 b_5)), (0, .ref (ad 8 0)), (1, .int a1), (2, .int a2)] := by rw [ho_6] at hl; exact hl
    obtain ⟨hb_7, hwp⟩ := hwp
    refine va_get (D := (dC, dI)) (ci := 2) (v := .int (sI s1 40 b_5)) (C := RX2) (T := TX2) (N := 15) hx hb hts iX8_count_2 hown hK hP (7 + b_5) (atFlow hb_7) rfl 8 (by decide) (hts (.fieldLink RX8 152 "LinkQueues$Flow" "came" "I") (by decide +kernel)) (fun _ h9 => h9) rfl dX8_count_61 ?_
    refine vx_ret ?_
    refine W.widen (k := 2) (n := 12) (Nat.le_of_ble_eq_true rfl) (Nat.le_of_ble_eq_true rfl) ?_
    exact W.iret (v := (sI s1 40 b_5)) hx hb hr (fun t ht hW => ⟨⟨(sI s1 40 b_5), s1, rfl, hwp, by rw [ht]; exact hP, va_K.moved hW.alike hK, hD⟩, hS.F ht⟩) hS.2.2 dX8_count_64
  · replace hwp := hwp.2.2.1 hw_3
    refine lv_tableIn (off := 58) (tgt := 65) hx hb dX8_count_7 (by rw [hw_3]; decide) (by rw [hw_3]; decide) (by rw [hw_3]; rfl) (by decide) ?_
    refine q_aload_n hx hb dX8_count_65 rfl (lv_at hl 0 rfl) ?_
    obtain ⟨b_8, ho_9, hwp⟩ := hwp
    rw [ho_9]
    have hl : lv_has ls 4 [(3, .ref (ad 2 b_8)), (0, .ref (ad 8 0)), (1, .int a1), (2, .int a2)] := by rw [ho_9] at hl; exact hl
    obtain ⟨hb_10, hwp⟩ := hwp
    refine va_get (D := (dC, dI)) (ci := 2) (v := .int (sI s1 41 b_8)) (C := RX2) (T := TX2) (N := 15) hx hb hts iX8_count_2 hown hK hP (7 + b_8) (atFlow hb_10) rfl 9 (by decide) (hts (.fieldLink RX8 177 "LinkQueues$Flow" "sent" "I") (by decide +kernel)) (fun _ h9 => h9) rfl dX8_count_66 ?_
    refine vx_ret ?_
    refine W.widen (k := 2) (n := 12) (Nat.le_of_ble_eq_true rfl) (Nat.le_of_ble_eq_true rfl) ?_
    exact W.iret (v := (sI s1 41 b_8)) hx hb hr (fun t ht hW => ⟨⟨(sI s1 41 b_8), s1, rfl, hwp, by rw [ht]; exact hP, va_K.moved hW.alike hK, hD⟩, hS.F ht⟩) hS.2.2 dX8_count_69
  · replace hwp := hwp.2.2.2.1 hw_3
    refine lv_tableIn (off := 63) (tgt := 70) hx hb dX8_count_7 (by rw [hw_3]; decide) (by rw [hw_3]; decide) (by rw [hw_3]; rfl) (by decide) ?_
    refine q_aload_n hx hb dX8_count_70 rfl (lv_at hl 0 rfl) ?_
    obtain ⟨b_11, ho_12, hwp⟩ := hwp
    rw [ho_12]
    have hl : lv_has ls 4 [(3, .ref (ad 2 b_11)), (0, .ref (ad 8 0)), (1, .int a1), (2, .int a2)] := by rw [ho_12] at hl; exact hl
    obtain ⟨hb_13, hwp⟩ := hwp
    refine va_get (D := (dC, dI)) (ci := 2) (v := .int (sI s1 43 b_11)) (C := RX2) (T := TX2) (N := 15) hx hb hts iX8_count_2 hown hK hP (7 + b_11) (atFlow hb_13) rfl 11 (by decide) (hts (.fieldLink RX8 155 "LinkQueues$Flow" "lostFull" "I") (by decide +kernel)) (fun _ h9 => h9) rfl dX8_count_71 ?_
    refine vx_ret ?_
    refine W.widen (k := 2) (n := 12) (Nat.le_of_ble_eq_true rfl) (Nat.le_of_ble_eq_true rfl) ?_
    exact W.iret (v := (sI s1 43 b_11)) hx hb hr (fun t ht hW => ⟨⟨(sI s1 43 b_11), s1, rfl, hwp, by rw [ht]; exact hP, va_K.moved hW.alike hK, hD⟩, hS.F ht⟩) hS.2.2 dX8_count_74
  · replace hwp := hwp.2.2.2.2.1 hw_3
    refine lv_tableIn (off := 68) (tgt := 75) hx hb dX8_count_7 (by rw [hw_3]; decide) (by rw [hw_3]; decide) (by rw [hw_3]; rfl) (by decide) ?_
    refine q_aload_n hx hb dX8_count_75 rfl (lv_at hl 0 rfl) ?_
    obtain ⟨b_14, ho_15, hwp⟩ := hwp
    rw [ho_15]
    have hl : lv_has ls 4 [(3, .ref (ad 2 b_14)), (0, .ref (ad 8 0)), (1, .int a1), (2, .int a2)] := by rw [ho_15] at hl; exact hl
    obtain ⟨hb_16, hwp⟩ := hwp
    refine va_get (D := (dC, dI)) (ci := 2) (v := .int (sI s1 44 b_14)) (C := RX2) (T := TX2) (N := 15) hx hb hts iX8_count_2 hown hK hP (7 + b_14) (atFlow hb_16) rfl 12 (by decide) (hts (.fieldLink RX8 162 "LinkQueues$Flow" "lostMean" "I") (by decide +kernel)) (fun _ h9 => h9) rfl dX8_count_76 ?_
    refine vx_ret ?_
    refine W.widen (k := 2) (n := 12) (Nat.le_of_ble_eq_true rfl) (Nat.le_of_ble_eq_true rfl) ?_
    exact W.iret (v := (sI s1 44 b_14)) hx hb hr (fun t ht hW => ⟨⟨(sI s1 44 b_14), s1, rfl, hwp, by rw [ht]; exact hP, va_K.moved hW.alike hK, hD⟩, hS.F ht⟩) hS.2.2 dX8_count_79
  · replace hwp := hwp.2.2.2.2.2.1 hw_3
    refine lv_tableIn (off := 73) (tgt := 80) hx hb dX8_count_7 (by rw [hw_3]; decide) (by rw [hw_3]; decide) (by rw [hw_3]; rfl) (by decide) ?_
    refine q_aload_n hx hb dX8_count_80 rfl (lv_at hl 0 rfl) ?_
    obtain ⟨b_17, ho_18, hwp⟩ := hwp
    rw [ho_18]
    have hl : lv_has ls 4 [(3, .ref (ad 2 b_17)), (0, .ref (ad 8 0)), (1, .int a1), (2, .int a2)] := by rw [ho_18] at hl; exact hl
    obtain ⟨hb_19, hwp⟩ := hwp
    refine va_get (D := (dC, dI)) (ci := 2) (v := .int (sI s1 45 b_17)) (C := RX2) (T := TX2) (N := 15) hx hb hts iX8_count_2 hown hK hP (7 + b_17) (atFlow hb_19) rfl 13 (by decide) (hts (.fieldLink RX8 180 "LinkQueues$Flow" "lostDelay" "I") (by decide +kernel)) (fun _ h9 => h9) rfl dX8_count_81 ?_
    refine vx_ret ?_
    refine W.widen (k := 2) (n := 12) (Nat.le_of_ble_eq_true rfl) (Nat.le_of_ble_eq_true rfl) ?_
    exact W.iret (v := (sI s1 45 b_17)) hx hb hr (fun t ht hW => ⟨⟨(sI s1 45 b_17), s1, rfl, hwp, by rw [ht]; exact hP, va_K.moved hW.alike hK, hD⟩, hS.F ht⟩) hS.2.2 dX8_count_84
  · replace hwp := hwp.2.2.2.2.2.2.1 hw_3
    refine lv_tableIn (off := 78) (tgt := 85) hx hb dX8_count_7 (by rw [hw_3]; decide) (by rw [hw_3]; decide) (by rw [hw_3]; rfl) (by decide) ?_
    refine q_aload_n hx hb dX8_count_85 rfl (lv_at hl 0 rfl) ?_
    obtain ⟨b_20, ho_21, hwp⟩ := hwp
    rw [ho_21]
    have hl : lv_has ls 4 [(3, .ref (ad 2 b_20)), (0, .ref (ad 8 0)), (1, .int a1), (2, .int a2)] := by rw [ho_21] at hl; exact hl
    obtain ⟨hb_22, hwp⟩ := hwp
    refine va_get (D := (dC, dI)) (ci := 2) (v := .int (sI s1 46 b_20)) (C := RX2) (T := TX2) (N := 15) hx hb hts iX8_count_2 hown hK hP (7 + b_20) (atFlow hb_22) rfl 14 (by decide) (hts (.fieldLink RX8 183 "LinkQueues$Flow" "marked" "I") (by decide +kernel)) (fun _ h9 => h9) rfl dX8_count_86 ?_
    refine vx_ret ?_
    refine W.widen (k := 2) (n := 12) (Nat.le_of_ble_eq_true rfl) (Nat.le_of_ble_eq_true rfl) ?_
    exact W.iret (v := (sI s1 46 b_20)) hx hb hr (fun t ht hW => ⟨⟨(sI s1 46 b_20), s1, rfl, hwp, by rw [ht]; exact hP, va_K.moved hW.alike hK, hD⟩, hS.F ht⟩) hS.2.2 dX8_count_89
  · replace hwp := hwp.2.2.2.2.2.2.2.1 hw_3
    refine lv_tableIn (off := 83) (tgt := 90) hx hb dX8_count_7 (by rw [hw_3]; decide) (by rw [hw_3]; decide) (by rw [hw_3]; rfl) (by decide) ?_
    refine q_aload_n hx hb dX8_count_90 rfl (lv_at hl 0 rfl) ?_
    obtain ⟨b_23, ho_24, hwp⟩ := hwp
    rw [ho_24]
    have hl : lv_has ls 4 [(3, .ref (ad 2 b_23)), (0, .ref (ad 8 0)), (1, .int a1), (2, .int a2)] := by rw [ho_24] at hl; exact hl
    obtain ⟨hb_25, hwp⟩ := hwp
    refine va_get (D := (dC, dI)) (ci := 2) (v := .ref (ad 6 b_23)) (C := RX2) (T := TX2) (N := 15) hx hb hts iX8_count_2 hown hK hP (7 + b_23) (atFlow hb_25) rfl 1 (by decide) (hts (.fieldLink RX8 186 "LinkQueues$Flow" "queue" "LLinkQueues$Queue;") (by decide +kernel)) (fun _ h9 => h9) rfl dX8_count_91 ?_
    obtain ⟨hb_26, hwp⟩ := hwp
    refine va_get (D := (dC, dI)) (ci := 6) (v := .int (sI s1 98 b_23)) (C := RX6) (T := TX6) (N := 4) hx hb hts iX8_count_6 hown hK hP (13 + b_23) (atQueue hb_26) rfl 2 (by decide) (hts (.fieldLink RX8 190 "LinkQueues$Queue" "packets" "I") (by decide +kernel)) (fun _ h9 => h9) rfl dX8_count_94 ?_
    refine vx_ret ?_
    refine W.widen (k := 2) (n := 12) (Nat.le_of_ble_eq_true rfl) (Nat.le_of_ble_eq_true rfl) ?_
    exact W.iret (v := (sI s1 98 b_23)) hx hb hr (fun t ht hW => ⟨⟨(sI s1 98 b_23), s1, rfl, hwp, by rw [ht]; exact hP, va_K.moved hW.alike hK, hD⟩, hS.F ht⟩) hS.2.2 dX8_count_97
  · replace hwp := hwp.2.2.2.2.2.2.2.2.1 hw_3
    refine lv_tableIn (off := 91) (tgt := 98) hx hb dX8_count_7 (by rw [hw_3]; decide) (by rw [hw_3]; decide) (by rw [hw_3]; rfl) (by decide) ?_
    refine q_aload_n hx hb dX8_count_98 rfl (lv_at hl 0 rfl) ?_
    obtain ⟨b_27, ho_28, hwp⟩ := hwp
    rw [ho_28]
    have hl : lv_has ls 4 [(3, .ref (ad 2 b_27)), (0, .ref (ad 8 0)), (1, .int a1), (2, .int a2)] := by rw [ho_28] at hl; exact hl
    obtain ⟨hb_29, hwp⟩ := hwp
    refine va_get (D := (dC, dI)) (ci := 2) (v := .ref (ad 6 b_27)) (C := RX2) (T := TX2) (N := 15) hx hb hts iX8_count_2 hown hK hP (7 + b_27) (atFlow hb_29) rfl 1 (by decide) (hts (.fieldLink RX8 186 "LinkQueues$Flow" "queue" "LLinkQueues$Queue;") (by decide +kernel)) (fun _ h9 => h9) rfl dX8_count_99 ?_
    obtain ⟨hb_30, hwp⟩ := hwp
    refine va_get (D := (dC, dI)) (ci := 6) (v := .int (sI s1 99 b_27)) (C := RX6) (T := TX6) (N := 4) hx hb hts iX8_count_6 hown hK hP (13 + b_27) (atQueue hb_30) rfl 3 (by decide) (hts (.fieldLink RX8 195 "LinkQueues$Queue" "bytes" "I") (by decide +kernel)) (fun _ h9 => h9) rfl dX8_count_102 ?_
    refine vx_ret ?_
    refine W.widen (k := 2) (n := 12) (Nat.le_of_ble_eq_true rfl) (Nat.le_of_ble_eq_true rfl) ?_
    exact W.iret (v := (sI s1 99 b_27)) hx hb hr (fun t ht hW => ⟨⟨(sI s1 99 b_27), s1, rfl, hwp, by rw [ht]; exact hP, va_K.moved hW.alike hK, hD⟩, hS.F ht⟩) hS.2.2 dX8_count_105
  · replace hwp := hwp.2.2.2.2.2.2.2.2.2.1 hw_3
    refine lv_tableIn (off := 99) (tgt := 106) hx hb dX8_count_7 (by rw [hw_3]; decide) (by rw [hw_3]; decide) (by rw [hw_3]; rfl) (by decide) ?_
    refine q_aload_n hx hb dX8_count_106 rfl (lv_at hl 0 rfl) ?_
    obtain ⟨b_31, ho_32, hwp⟩ := hwp
    rw [ho_32]
    have hl : lv_has ls 4 [(3, .ref (ad 2 b_31)), (0, .ref (ad 8 0)), (1, .int a1), (2, .int a2)] := by rw [ho_32] at hl; exact hl
    obtain ⟨hb_33, hwp⟩ := hwp
    refine va_get (D := (dC, dI)) (ci := 2) (v := .int (sI s1 42 b_31)) (C := RX2) (T := TX2) (N := 15) hx hb hts iX8_count_2 hown hK hP (7 + b_31) (atFlow hb_33) rfl 10 (by decide) (hts (.fieldLink RX8 198 "LinkQueues$Flow" "sentBytes" "I") (by decide +kernel)) (fun _ h9 => h9) rfl dX8_count_107 ?_
    refine vx_ret ?_
    refine W.widen (k := 2) (n := 12) (Nat.le_of_ble_eq_true rfl) (Nat.le_of_ble_eq_true rfl) ?_
    exact W.iret (v := (sI s1 42 b_31)) hx hb hr (fun t ht hW => ⟨⟨(sI s1 42 b_31), s1, rfl, hwp, by rw [ht]; exact hP, va_K.moved hW.alike hK, hD⟩, hS.F ht⟩) hS.2.2 dX8_count_110
  · replace hwp := hwp.2.2.2.2.2.2.2.2.2.2 hw_3
    refine lv_tableIn (off := 104) (tgt := 111) hx hb dX8_count_7 (by rw [hw_3]; decide) (by rw [hw_3]; decide) (by rw [hw_3]; rfl) (by decide) ?_
    refine q_aload_n hx hb dX8_count_111 rfl (lv_at hl 0 rfl) ?_
    obtain ⟨b_34, ho_35, hwp⟩ := hwp
    rw [ho_35]
    have hl : lv_has ls 4 [(3, .ref (ad 2 b_34)), (0, .ref (ad 8 0)), (1, .int a1), (2, .int a2)] := by rw [ho_35] at hl; exact hl
    obtain ⟨hb_36, hwp⟩ := hwp
    refine va_get (D := (dC, dI)) (ci := 2) (v := .int (sI s1 38 b_34)) (C := RX2) (T := TX2) (N := 15) hx hb hts iX8_count_2 hown hK hP (7 + b_34) (atFlow hb_36) rfl 6 (by decide) (hts (.fieldLink RX8 201 "LinkQueues$Flow" "deficit" "I") (by decide +kernel)) (fun _ h9 => h9) rfl dX8_count_112 ?_
    refine vx_ret ?_
    refine W.widen (k := 2) (n := 12) (Nat.le_of_ble_eq_true rfl) (Nat.le_of_ble_eq_true rfl) ?_
    exact W.iret (v := (sI s1 38 b_34)) hx hb hr (fun t ht hW => ⟨⟨(sI s1 38 b_34), s1, rfl, hwp, by rw [ht]; exact hP, va_K.moved hW.alike hK, hD⟩, hS.F ht⟩) hS.2.2 dX8_count_115
def wp_X8_sent (n : Nat) (σ : ST) (a1 : Int32) (a2 : Int32) (K : Int32 → ST → Prop) (KX : String → ST → Prop) : Prop := ((a2 < 0 → (KX "java/lang/IllegalArgumentException" σ)) ∧ (¬ (a2 < 0) → (((a2 ≤ 4 → (wp_X4_lastBut n σ a1 (fun r3 s2 =>
((r3 = none → (K (-1) s2)) ∧ (∀ b_4, r3 = some b_4 → (((a2.toInt < 0 ∨ 3 < a2.toInt → (b_4 < n ∧
(((sI s2 85 b_4) = 0 → (K 0 s2)) ∧ (¬ ((sI s2 85 b_4) = 0) → (K 1 s2))))) ∧ (a2 = 0 → (b_4 < n ∧
K (sI s2 80 b_4) s2)) ∧ (a2 = 1 → (b_4 < n ∧
∃ b_10, (sR s2 81 b_4) = some b_10 ∧
b_10 < 6 ∧
K (sI s2 32 b_10) s2)) ∧ (a2 = 2 → (b_4 < n ∧
K (sI s2 82 b_4) s2)) ∧ (a2 = 3 → (b_4 < n ∧
K (sI s2 86 b_4) s2))))))
))) ∧ (¬ (a2 ≤ 4) → (KX "java/lang/IllegalArgumentException" σ))))))
set_option maxRecDepth 20000 in
theorem iX8_sent_8 : ∀ w ∈ wsX80, w ∈ wsX8_sent := by decide +kernel
set_option maxRecDepth 20000 in
theorem iX8_sent_5 : ∀ w ∈ wsX50, w ∈ wsX8_sent := by decide +kernel
set_option maxRecDepth 20000 in
theorem iX8_sent_2 : ∀ w ∈ wsX20, w ∈ wsX8_sent := by decide +kernel
theorem iX8_sent_A : ∀ w ∈ (vx_atS RX8 73 "java/lang/IllegalArgumentException" ["java/lang/RuntimeException", "java/lang/Exception"]).filter goodWord, w ∈ wsX8_sent := fun _ h => List.mem_cons_of_mem _ (List.mem_append_right _ h)
set_option maxHeartbeats 8000000 in
set_option maxRecDepth 100000 in
theorem c_X8_sent (l : Launch) (hfl : l.stackTraces = false) (dC : Nat → ClassId) (dI : Nat → Nat → Nat) (cA : Nat → ClassId) (ad : Nat → Nat → Nat) (n : Nat) (σ : ST) (a1 : Int32) (a2 : Int32) (sz : Nat) (K : Int32 → ST → Prop) (KX : String → ST → Prop) (hwp : wp_X8_sent n σ a1 a2 K KX) : vx_Met l yX8_sent wsX8_sent ({ frames := 6, cells := 2, slots := 12, locals := 90 } : Room) (va_Pc [.ref (ad 8 0), .int a1, .int a2] (preX dC dI cA (Wc cA ad n σ) sz)) (va_Qi K (atC dC dI cA (Wc cA ad n) (va_A (Wc cA ad n σ) sz)) (va_A (Wc cA ad n σ) sz)) (xQ dC dI cA (Wc cA ad n) KX (va_A (Wc cA ad n σ) sz)) 2 12 (va_A (Wc cA ad n σ) sz) := by
  refine vx_ofW (cc := cX8_sent) (maxL := 4) (ret := (some .int)) (by decide) rfl ?_
  intro p e s m args below meth c s₁ B hml hnt hv
  obtain ⟨rfl, ⟨hsz, hP, hK, hD0⟩, hT⟩ := hv
  have hx := B.exec
  have hb := B.bytes
  have hr := B.returns
  have hts := atoms_spec (ws := wsX8_sent) B.pre
  have hown : s.vm.findClass RX8 = some m.cls := findClass_of_methodNamed B.named
  have hlocks := B.notSynchronized
  subst hsz
  have hD := hD0.self (sz := s.heap.size)
  clear hD0
  generalize hAe : va_A (Wc cA ad n σ) s.heap.size = A at hD hT ⊢
  have hA : ∀ q : Nat, s.heap.size ≤ q → A q := fun q h => by rw [← hAe]; exact Or.inr h
  have hS : va_S A s.heap s.heap [] := va_S.rf
  have hkc : 0 ≤ 0 := Nat.le_refl 0
  have hks : 0 ≤ 0 := Nat.le_refl 0
  have hl := lv_entry ([.ref (ad 8 0), .int a1, .int a2]) (n := 4) (Nat.le_of_ble_eq_true rfl)
  rw [lg_entry_eq]
  generalize (lg_sl ([.ref (ad 8 0), .int a1, .int a2]) ++ List.replicate (4 - (lg_sl ([.ref (ad 8 0), .int a1, .int a2])).length) Slot.unset).toArray = ls at hl ⊢
  have hl : lv_has ls 4 [(0, .ref (ad 8 0)), (1, .int a1), (2, .int a2)] := hl
  unfold wp_X8_sent at hwp
  generalize hHe : s.heap = H at hP ⊢
  have hS : va_S A s.heap H [] := by rw [← hHe]; exact va_S.rf
  clear hHe
  refine lv_iload_n hx hb dX8_sent_0 rfl (lv_at hl 2 rfl) ?_
  refine lv_if_lt (tgt := 9) hx hb dX8_sent_1 (by decide) (fun c_1 => ?_) (fun c_1 => ?_)
  · replace hwp := hwp.1 c_1
    obtain ⟨sa_1, hstr⟩ := hT.2.2.2.2.2.2.2.2 13 (218, "what is told of a packet is 0 to 4") rfl
    exact vx_throwS (own := RX8) (cls := "java/lang/IllegalArgumentException") (text := "what is told of a packet is 0 to 4") (names := ["java/lang/RuntimeException", "java/lang/Exception"]) (ik := 69) (is := 218) (ic := 73) (sa := sa_1) (A := A) hx hb hfl hown (by decide +kernel) (by decide +kernel) (hts (.classLink RX8 69 "java/lang/IllegalArgumentException") (by decide +kernel)) (hts (.initialized "java/lang/IllegalArgumentException") (by decide +kernel)) hstr (hatA hT hts iX8_sent_A) goodA hT.1 hT.2.1 hS (hl.1.trans hml.symm) dX8_sent_9 dX8_sent_12 dX8_sent_13 dX8_sent_15 dX8_sent_18 (fun x hx => (hnt x hx).elim) (Nat.le_of_ble_eq_true rfl) (Nat.le_of_ble_eq_true rfl) (Nat.le_of_ble_eq_true rfl) (Nat.le_of_ble_eq_true rfl) hlocks (xThrow (ws := Wc cA ad n) (KX := KX) hP hK hD hS hwp) hS.2.2 (Nat.le_of_ble_eq_true rfl) (Nat.le_of_ble_eq_true rfl)
  · replace hwp := hwp.2 c_1
    refine lv_iload_n hx hb dX8_sent_4 rfl (lv_at hl 2 rfl) ?_
    refine lv_iconst (v := 4) hx hb dX8_sent_5 (by decide) ?_
    refine lv_icmp_le (tgt := 19) hx hb dX8_sent_6 (by decide) (fun c_6 => ?_) (fun c_6 => ?_)
    · replace hwp := hwp.1 c_6
      refine lv_aload_n hx hb dX8_sent_19 rfl (lv_at hl 0 rfl) ?_
      refine va_get (D := (dC, dI)) (ci := 8) (v := .ref (ad 4 0)) (C := RX8) (T := TX8) (N := 11) hx hb hts iX8_sent_8 hown hK hP 0 atLq rfl 3 (by decide) (hts (.fieldLink RX8 32 "LinkQueues" "outlog" "LLinkQueues$Outlog;") (by decide +kernel)) (fun _ h9 => h9) rfl dX8_sent_20 ?_
      refine lv_iload_n hx hb dX8_sent_23 rfl (lv_at hl 1 rfl) ?_
      have hF := fA hD hS hA
      refine va_calle (va_runV (As := [.int a1]) (rest := []) ⟨hx, hb, hml, hown, hts⟩ (c_X4_lastBut l dC dI cA ad n σ a1 H.size _ hwp) (cwV 1 hts gX8_sent_X4_lastBut rfl rfl rfl (by decide +kernel) ⟨Nat.le_of_ble_eq_true rfl, Nat.le_of_ble_eq_true rfl⟩) ⟨fbC, va_recv hK hP (ci := 4) (q0 := 5) rfl atOutlog, fun U hU hW => ⟨rfl, by rw [hU], by rw [hU]; exact hP, va_K.moved hW.alike hK, hD.weaken (fun _ _ _ _ => trivial)⟩⟩ rfl rfl hl.1 rfl (lv_room (Nat.le_of_ble_eq_true rfl)) dX8_sent_24 ⟨Nat.le_of_ble_eq_true rfl, Nat.le_of_ble_eq_true rfl⟩) hS (fun q _ h => hF q h) hF (fun r3 s2 t H1 locs ht hvm hwp hB hz1 hk1 hS => ?_)
      obtain ⟨hP1, hK1, hD1⟩ := hB
      rw [ht] at hP1
      have hD2 := hD1.weaken (fun _ q _ h => hF q.1 h)
      clear hP hD
      have hP := hP1
      have hD := hD2
      clear hP1 hD1 hD2 hK1 hk1 hz1 hF
      generalize H1 = H at hP hS ⊢
      refine q_astore_n (lv' := [(3, va_re (ad 5) r3), (0, .ref (ad 8 0)), (1, .int a1), (2, .int a2)]) hx hb dX8_sent_27 rfl hl (by decide) rfl (fun ls hl => ?_)
      refine q_aload_n hx hb dX8_sent_28 rfl (lv_at hl 0 rfl) ?_
      refine q_ifnonnull (tgt := 34) hx hb dX8_sent_29 (by decide) (fun b_4 ho_5 => ?_) (fun ho_5 => ?_)
      · replace hwp := hwp.2 b_4 ho_5
        have hl : lv_has ls 4 [(3, .ref (ad 5 b_4)), (0, .ref (ad 8 0)), (1, .int a1), (2, .int a2)] := by rw [ho_5] at hl; exact hl
        refine lv_iload_n hx hb dX8_sent_34 rfl (lv_at hl 3 rfl) ?_
        rcases sw3 a2 with hw_6 | hw_6 | hw_6 | hw_6 | hw_6
        · replace hwp := hwp.1 hw_6
          refine lv_tableOut (tgt := 87) hx hb dX8_sent_35 hw_6 (by decide) ?_
          refine lv_aload_n hx hb dX8_sent_87 rfl (lv_at hl 0 rfl) ?_
          obtain ⟨hb_7, hwp⟩ := hwp
          refine va_get (D := (dC, dI)) (ci := 5) (v := .int (sI s2 85 b_4)) (C := RX5) (T := TX5) (N := 8) hx hb hts iX8_sent_5 hown hK hP (31 + b_4) (atPacket hb_7) rfl 5 (by decide) (hts (.fieldLink RX8 235 "LinkQueues$Packet" "marked" "Z") (by decide +kernel)) (fun _ h9 => h9) rfl dX8_sent_88 ?_
          refine lv_if_eq (tgt := 98) hx hb dX8_sent_91 (by decide) (fun c_91 => ?_) (fun c_91 => ?_)
          · replace hwp := hwp.1 c_91
            refine lv_iconst (v := 0) hx hb dX8_sent_98 (by decide) ?_
            refine vx_ret ?_
            refine W.widen (k := 2) (n := 12) (Nat.le_of_ble_eq_true rfl) (Nat.le_of_ble_eq_true rfl) ?_
            exact W.iret (v := 0) hx hb hr (fun t ht hW => ⟨⟨0, s2, rfl, hwp, by rw [ht]; exact hP, va_K.moved hW.alike hK, hD⟩, hS.F ht⟩) hS.2.2 dX8_sent_99
          · replace hwp := hwp.2 c_91
            refine lv_iconst (v := 1) hx hb dX8_sent_94 (by decide) ?_
            refine lv_goto (tgt := 99) hx hb dX8_sent_95 (by decide) ?_
            refine vx_ret ?_
            refine W.widen (k := 2) (n := 12) (Nat.le_of_ble_eq_true rfl) (Nat.le_of_ble_eq_true rfl) ?_
            exact W.iret (v := 1) hx hb hr (fun t ht hW => ⟨⟨1, s2, rfl, hwp, by rw [ht]; exact hP, va_K.moved hW.alike hK, hD⟩, hS.F ht⟩) hS.2.2 dX8_sent_99
        · replace hwp := hwp.2.1 hw_6
          refine lv_tableIn (off := 29) (tgt := 64) hx hb dX8_sent_35 (by rw [hw_6]; decide) (by rw [hw_6]; decide) (by rw [hw_6]; rfl) (by decide) ?_
          refine lv_aload_n hx hb dX8_sent_64 rfl (lv_at hl 0 rfl) ?_
          obtain ⟨hb_8, hwp⟩ := hwp
          refine va_get (D := (dC, dI)) (ci := 5) (v := .int (sI s2 80 b_4)) (C := RX5) (T := TX5) (N := 8) hx hb hts iX8_sent_5 hown hK hP (31 + b_4) (atPacket hb_8) rfl 0 (by decide) (hts (.fieldLink RX8 169 "LinkQueues$Packet" "number" "I") (by decide +kernel)) (fun _ h9 => h9) rfl dX8_sent_65 ?_
          refine vx_ret ?_
          refine W.widen (k := 2) (n := 12) (Nat.le_of_ble_eq_true rfl) (Nat.le_of_ble_eq_true rfl) ?_
          exact W.iret (v := (sI s2 80 b_4)) hx hb hr (fun t ht hW => ⟨⟨(sI s2 80 b_4), s2, rfl, hwp, by rw [ht]; exact hP, va_K.moved hW.alike hK, hD⟩, hS.F ht⟩) hS.2.2 dX8_sent_68
        · replace hwp := hwp.2.2.1 hw_6
          refine lv_tableIn (off := 34) (tgt := 69) hx hb dX8_sent_35 (by rw [hw_6]; decide) (by rw [hw_6]; decide) (by rw [hw_6]; rfl) (by decide) ?_
          refine lv_aload_n hx hb dX8_sent_69 rfl (lv_at hl 0 rfl) ?_
          obtain ⟨hb_9, hwp⟩ := hwp
          refine va_get (D := (dC, dI)) (ci := 5) (v := va_re (ad 2) (sR s2 81 b_4)) (C := RX5) (T := TX5) (N := 8) hx hb hts iX8_sent_5 hown hK hP (31 + b_4) (atPacket hb_9) rfl 1 (by decide) (hts (.fieldLink RX8 224 "LinkQueues$Packet" "owner" "LLinkQueues$Flow;") (by decide +kernel)) (fun _ h9 => h9) rfl dX8_sent_70 ?_
          obtain ⟨b_10, ho_11, hwp⟩ := hwp
          rw [ho_11]
          obtain ⟨hb_12, hwp⟩ := hwp
          refine va_get (D := (dC, dI)) (ci := 2) (v := .int (sI s2 32 b_10)) (C := RX2) (T := TX2) (N := 15) hx hb hts iX8_sent_2 hown hK hP (7 + b_10) (atFlow hb_12) rfl 0 (by decide) (hts (.fieldLink RX8 228 "LinkQueues$Flow" "place" "I") (by decide +kernel)) (fun _ h9 => h9) rfl dX8_sent_73 ?_
          refine vx_ret ?_
          refine W.widen (k := 2) (n := 12) (Nat.le_of_ble_eq_true rfl) (Nat.le_of_ble_eq_true rfl) ?_
          exact W.iret (v := (sI s2 32 b_10)) hx hb hr (fun t ht hW => ⟨⟨(sI s2 32 b_10), s2, rfl, hwp, by rw [ht]; exact hP, va_K.moved hW.alike hK, hD⟩, hS.F ht⟩) hS.2.2 dX8_sent_76
        · replace hwp := hwp.2.2.2.1 hw_6
          refine lv_tableIn (off := 42) (tgt := 77) hx hb dX8_sent_35 (by rw [hw_6]; decide) (by rw [hw_6]; decide) (by rw [hw_6]; rfl) (by decide) ?_
          refine lv_aload_n hx hb dX8_sent_77 rfl (lv_at hl 0 rfl) ?_
          obtain ⟨hb_13, hwp⟩ := hwp
          refine va_get (D := (dC, dI)) (ci := 5) (v := .int (sI s2 82 b_4)) (C := RX5) (T := TX5) (N := 8) hx hb hts iX8_sent_5 hown hK hP (31 + b_4) (atPacket hb_13) rfl 2 (by decide) (hts (.fieldLink RX8 231 "LinkQueues$Packet" "bytes" "I") (by decide +kernel)) (fun _ h9 => h9) rfl dX8_sent_78 ?_
          refine vx_ret ?_
          refine W.widen (k := 2) (n := 12) (Nat.le_of_ble_eq_true rfl) (Nat.le_of_ble_eq_true rfl) ?_
          exact W.iret (v := (sI s2 82 b_4)) hx hb hr (fun t ht hW => ⟨⟨(sI s2 82 b_4), s2, rfl, hwp, by rw [ht]; exact hP, va_K.moved hW.alike hK, hD⟩, hS.F ht⟩) hS.2.2 dX8_sent_81
        · replace hwp := hwp.2.2.2.2 hw_6
          refine lv_tableIn (off := 47) (tgt := 82) hx hb dX8_sent_35 (by rw [hw_6]; decide) (by rw [hw_6]; decide) (by rw [hw_6]; rfl) (by decide) ?_
          refine lv_aload_n hx hb dX8_sent_82 rfl (lv_at hl 0 rfl) ?_
          obtain ⟨hb_14, hwp⟩ := hwp
          refine va_get (D := (dC, dI)) (ci := 5) (v := .int (sI s2 86 b_4)) (C := RX5) (T := TX5) (N := 8) hx hb hts iX8_sent_5 hown hK hP (31 + b_4) (atPacket hb_14) rfl 6 (by decide) (hts (.fieldLink RX8 232 "LinkQueues$Packet" "wait" "I") (by decide +kernel)) (fun _ h9 => h9) rfl dX8_sent_83 ?_
          refine vx_ret ?_
          refine W.widen (k := 2) (n := 12) (Nat.le_of_ble_eq_true rfl) (Nat.le_of_ble_eq_true rfl) ?_
          exact W.iret (v := (sI s2 86 b_4)) hx hb hr (fun t ht hW => ⟨⟨(sI s2 86 b_4), s2, rfl, hwp, by rw [ht]; exact hP, va_K.moved hW.alike hK, hD⟩, hS.F ht⟩) hS.2.2 dX8_sent_86
      · replace hwp := hwp.1 ho_5
        have hl : lv_has ls 4 [(3, .null), (0, .ref (ad 8 0)), (1, .int a1), (2, .int a2)] := by rw [ho_5] at hl; exact hl
        refine lv_iconst (v := (-1)) hx hb dX8_sent_32 (by decide) ?_
        refine vx_ret ?_
        refine W.widen (k := 2) (n := 12) (Nat.le_of_ble_eq_true rfl) (Nat.le_of_ble_eq_true rfl) ?_
        exact W.iret (v := (-1)) hx hb hr (fun t ht hW => ⟨⟨(-1), s2, rfl, hwp, by rw [ht]; exact hP, va_K.moved hW.alike hK, hD⟩, hS.F ht⟩) hS.2.2 dX8_sent_33
    · replace hwp := hwp.2 c_6
      obtain ⟨sa_15, hstr⟩ := hT.2.2.2.2.2.2.2.2 13 (218, "what is told of a packet is 0 to 4") rfl
      exact vx_throwS (own := RX8) (cls := "java/lang/IllegalArgumentException") (text := "what is told of a packet is 0 to 4") (names := ["java/lang/RuntimeException", "java/lang/Exception"]) (ik := 69) (is := 218) (ic := 73) (sa := sa_15) (A := A) hx hb hfl hown (by decide +kernel) (by decide +kernel) (hts (.classLink RX8 69 "java/lang/IllegalArgumentException") (by decide +kernel)) (hts (.initialized "java/lang/IllegalArgumentException") (by decide +kernel)) hstr (hatA hT hts iX8_sent_A) goodA hT.1 hT.2.1 hS (hl.1.trans hml.symm) dX8_sent_9 dX8_sent_12 dX8_sent_13 dX8_sent_15 dX8_sent_18 (fun x hx => (hnt x hx).elim) (Nat.le_of_ble_eq_true rfl) (Nat.le_of_ble_eq_true rfl) (Nat.le_of_ble_eq_true rfl) (Nat.le_of_ble_eq_true rfl) hlocks (xThrow (ws := Wc cA ad n) (KX := KX) hP hK hD hS hwp) hS.2.2 (Nat.le_of_ble_eq_true rfl) (Nat.le_of_ble_eq_true rfl)
