def wp_X8_kind (n : Nat) (σ : ST) (a1 : Int32) (a2 : Int32) (a3 : Int32) (K : ST → Prop) (KX : String → ST → Prop) : Prop := wp_X8_flowAt n σ a1 (fun r2 s1 =>
((a2 < 0 → (KX "java/lang/IllegalArgumentException" s1)) ∧ (¬ (a2 < 0) → (((a2 ≤ 2 → (((a3 < 1 → (KX "java/lang/IllegalArgumentException" s1)) ∧ (¬ (a3 < 1) → (((a3 ≤ 3000 → (∃ b_5, r2 = some b_5 ∧
b_5 < 6 ∧
∀ s8, s8 = upI s1 36 b_5 a2 →
∀ s9, s9 = upI s8 37 b_5 a3 →
b_5 < 6 ∧
wp_X3_restart n s9 b_5 (sI s9 132 0) (fun s10 =>
b_5 < 6 ∧
wp_X1_restart n s10 b_5 (fun s12 =>
K s12
)
))) ∧ (¬ (a3 ≤ 3000) → (KX "java/lang/IllegalArgumentException" s1)))))))) ∧ (¬ (a2 ≤ 2) → (KX "java/lang/IllegalArgumentException" s1))))))
) KX
set_option maxRecDepth 20000 in
theorem iX8_kind_2 : ∀ w ∈ wsX20, w ∈ wsX8_kind := by decide +kernel
set_option maxRecDepth 20000 in
theorem iX8_kind_8 : ∀ w ∈ wsX80, w ∈ wsX8_kind := by decide +kernel
theorem iX8_kind_A : ∀ w ∈ (vx_atS RX8 73 "java/lang/IllegalArgumentException" ["java/lang/RuntimeException", "java/lang/Exception"]).filter goodWord, w ∈ wsX8_kind := fun _ h => List.mem_cons_of_mem _ (List.mem_append_right _ h)
set_option maxHeartbeats 8000000 in
set_option maxRecDepth 100000 in
theorem c_X8_kind (l : Launch) (hfl : l.stackTraces = false) (dC : Nat → ClassId) (dI : Nat → Nat → Nat) (cA : Nat → ClassId) (ad : Nat → Nat → Nat) (n : Nat) (σ : ST) (a1 : Int32) (a2 : Int32) (a3 : Int32) (sz : Nat) (K : ST → Prop) (KX : String → ST → Prop) (hwp : wp_X8_kind n σ a1 a2 a3 K KX) : vx_Met l yX8_kind wsX8_kind ({ frames := 7, cells := 2, slots := 12, locals := 112 } : Room) (va_Pc [.ref (ad 8 0), .int a1, .int a2, .int a3] (preX dC dI cA (Wc cA ad n σ) sz)) (va_Qv K (atC dC dI cA (Wc cA ad n) (va_A (Wc cA ad n σ) sz)) (va_A (Wc cA ad n σ) sz)) (xQ dC dI cA (Wc cA ad n) KX (va_A (Wc cA ad n σ) sz)) 2 12 (va_A (Wc cA ad n σ) sz) := by
  refine vx_ofW (cc := cX8_kind) (maxL := 5) (ret := none) (by decide) rfl ?_
  intro p e s m args below meth c s₁ B hml hnt hv
  obtain ⟨rfl, ⟨hsz, hP, hK, hD0⟩, hT⟩ := hv
  have hx := B.exec
  have hb := B.bytes
  have hr := B.returns
  have hts := atoms_spec (ws := wsX8_kind) B.pre
  have hown : s.vm.findClass RX8 = some m.cls := findClass_of_methodNamed B.named
  have hlocks := B.notSynchronized
  subst hsz
  have hD := hD0.self (sz := s.heap.size)
  clear hD0
  generalize hAe : va_A (Wc cA ad n σ) s.heap.size = A at hD hT ⊢
  have hA : ∀ q : Nat, s.heap.size ≤ q → A q := fun q h => by rw [← hAe]; exact Or.inr h
  have hS : va_S A s.heap s.heap [] := va_S.rf
  have hkc : 0 ≤ 0 := Nat.le_refl 0
  have hks : 0 ≤ 0 := Nat.le_refl 0
  have hl := lv_entry ([.ref (ad 8 0), .int a1, .int a2, .int a3]) (n := 5) (Nat.le_of_ble_eq_true rfl)
  rw [lg_entry_eq]
  generalize (lg_sl ([.ref (ad 8 0), .int a1, .int a2, .int a3]) ++ List.replicate (5 - (lg_sl ([.ref (ad 8 0), .int a1, .int a2, .int a3])).length) Slot.unset).toArray = ls at hl ⊢
  have hl : lv_has ls 5 [(0, .ref (ad 8 0)), (1, .int a1), (2, .int a2), (3, .int a3)] := hl
  unfold wp_X8_kind at hwp
  generalize hHe : s.heap = H at hP ⊢
  have hS : va_S A s.heap H [] := by rw [← hHe]; exact va_S.rf
  clear hHe
  refine lv_aload_n hx hb dX8_kind_0 rfl (lv_at hl 0 rfl) ?_
  refine lv_iload_n hx hb dX8_kind_1 rfl (lv_at hl 1 rfl) ?_
  have hF := fA hD hS hA
  refine vx_calle (vx_runV (As := [.int a1]) (rest := []) ⟨hx, hb, hml, hown, hts⟩ (c_X8_flowAt l hfl dC dI cA ad n σ a1 H.size _ _ hwp) (cwV 1 hts gX8_kind_X8_flowAt rfl rfl rfl (by decide +kernel) ⟨Nat.le_of_ble_eq_true rfl, Nat.le_of_ble_eq_true rfl⟩) ⟨fbX, va_recv hK hP (ci := 8) (q0 := 0) rfl atLq, fun U hU hW => ⟨rfl, ⟨by rw [hU], by rw [hU]; exact hP, va_K.moved hW.alike hK, hD.weaken (fun _ _ _ _ => trivial)⟩, hT.move hW hS hU hF⟩⟩ rfl rfl hl.1 rfl (lv_room (Nat.le_of_ble_eq_true rfl)) dX8_kind_2 ⟨Nat.le_of_ble_eq_true rfl, Nat.le_of_ble_eq_true rfl⟩) hS (fun q _ h => hF q h) hF (fun q _ h => hF q h) (fun E ce q9 u t H1 locs ht hvm hpx hBX hz1 hk1 hS1 hce hcv hcl => ?_) (fun r2 s1 t H1 locs ht hvm hwp hB hz1 hk1 hS => ?_)
  · exact vx_out (fun x hx => (hnt x hx).elim) hlocks hce hcv hcl (xPass hS1 hpx hBX ht hvm hF) hS1.2.2 (Nat.le_of_ble_eq_true rfl) (Nat.le_of_ble_eq_true rfl)
  obtain ⟨hP1, hK1, hD1⟩ := hB
  rw [ht] at hP1
  have hD2 := hD1.weaken (fun _ q _ h => hF q.1 h)
  clear hP hD
  have hP := hP1
  have hD := hD2
  clear hP1 hD1 hD2 hK1 hk1 hz1 hF
  generalize H1 = H at hP hS ⊢
  refine q_astore (lv' := [(4, va_re (ad 2) r2), (0, .ref (ad 8 0)), (1, .int a1), (2, .int a2), (3, .int a3)]) hx hb dX8_kind_5 hl (by decide) rfl (fun ls hl => ?_)
  refine lv_iload_n hx hb dX8_kind_7 rfl (lv_at hl 3 rfl) ?_
  refine lv_if_lt (tgt := 16) hx hb dX8_kind_8 (by decide) (fun c_8 => ?_) (fun c_8 => ?_)
  · replace hwp := hwp.1 c_8
    obtain ⟨sa_3, hstr⟩ := hT.2.2.2.2.2.2.2.2 0 (71, "a kind is 0, 1 or 2") rfl
    exact vx_throwS (own := RX8) (cls := "java/lang/IllegalArgumentException") (text := "a kind is 0, 1 or 2") (names := ["java/lang/RuntimeException", "java/lang/Exception"]) (ik := 69) (is := 71) (ic := 73) (sa := sa_3) (A := A) hx hb hfl hown (by decide +kernel) (by decide +kernel) (hts (.classLink RX8 69 "java/lang/IllegalArgumentException") (by decide +kernel)) (hts (.initialized "java/lang/IllegalArgumentException") (by decide +kernel)) hstr (hatA hT hts iX8_kind_A) goodA hT.1 hT.2.1 hS (hl.1.trans hml.symm) dX8_kind_16 dX8_kind_19 dX8_kind_20 dX8_kind_22 dX8_kind_25 (fun x hx => (hnt x hx).elim) (Nat.le_of_ble_eq_true rfl) (Nat.le_of_ble_eq_true rfl) (Nat.le_of_ble_eq_true rfl) (Nat.le_of_ble_eq_true rfl) hlocks (xThrow (ws := Wc cA ad n) (KX := KX) hP hK hD hS hwp) hS.2.2 (Nat.le_of_ble_eq_true rfl) (Nat.le_of_ble_eq_true rfl)
  · replace hwp := hwp.2 c_8
    refine lv_iload_n hx hb dX8_kind_11 rfl (lv_at hl 3 rfl) ?_
    refine lv_iconst (v := 2) hx hb dX8_kind_12 (by decide) ?_
    refine lv_icmp_le (tgt := 26) hx hb dX8_kind_13 (by decide) (fun c_13 => ?_) (fun c_13 => ?_)
    · replace hwp := hwp.1 c_13
      refine lv_iload_n hx hb dX8_kind_26 rfl (lv_at hl 4 rfl) ?_
      refine lv_iconst (v := 1) hx hb dX8_kind_27 (by decide) ?_
      refine lv_icmp_lt (tgt := 38) hx hb dX8_kind_28 (by decide) (fun c_28 => ?_) (fun c_28 => ?_)
      · replace hwp := hwp.1 c_28
        obtain ⟨sa_4, hstr⟩ := hT.2.2.2.2.2.2.2.2 1 (76, "a quantum is 1 to 3000 bytes") rfl
        exact vx_throwS (own := RX8) (cls := "java/lang/IllegalArgumentException") (text := "a quantum is 1 to 3000 bytes") (names := ["java/lang/RuntimeException", "java/lang/Exception"]) (ik := 69) (is := 76) (ic := 73) (sa := sa_4) (A := A) hx hb hfl hown (by decide +kernel) (by decide +kernel) (hts (.classLink RX8 69 "java/lang/IllegalArgumentException") (by decide +kernel)) (hts (.initialized "java/lang/IllegalArgumentException") (by decide +kernel)) hstr (hatA hT hts iX8_kind_A) goodA hT.1 hT.2.1 hS (hl.1.trans hml.symm) dX8_kind_38 dX8_kind_41 dX8_kind_42 dX8_kind_44 dX8_kind_47 (fun x hx => (hnt x hx).elim) (Nat.le_of_ble_eq_true rfl) (Nat.le_of_ble_eq_true rfl) (Nat.le_of_ble_eq_true rfl) (Nat.le_of_ble_eq_true rfl) hlocks (xThrow (ws := Wc cA ad n) (KX := KX) hP hK hD hS hwp) hS.2.2 (Nat.le_of_ble_eq_true rfl) (Nat.le_of_ble_eq_true rfl)
      · replace hwp := hwp.2 c_28
        refine lv_iload_n hx hb dX8_kind_31 rfl (lv_at hl 4 rfl) ?_
        refine lv_sipush (v := 3000) hx hb dX8_kind_32 (by decide) ?_
        refine lv_icmp_le (tgt := 48) hx hb dX8_kind_35 (by decide) (fun c_35 => ?_) (fun c_35 => ?_)
        · replace hwp := hwp.1 c_35
          refine q_aload hx hb dX8_kind_48 (lv_at hl 0 rfl) ?_
          refine lv_iload_n hx hb dX8_kind_50 rfl (lv_at hl 3 rfl) ?_
          obtain ⟨b_5, ho_6, hwp⟩ := hwp
          rw [ho_6]
          have hl : lv_has ls 5 [(4, .ref (ad 2 b_5)), (0, .ref (ad 8 0)), (1, .int a1), (2, .int a2), (3, .int a3)] := by rw [ho_6] at hl; exact hl
          obtain ⟨hb_7, hwp⟩ := hwp
          obtain ⟨s8, e_s8⟩ : ∃ z, z = upI s1 36 b_5 a2 := ⟨_, rfl⟩
          refine st_put (D := (dC, dI)) (ci := 2) (v := .int a2) (ty := .int) (C := RX2) (T := TX2) (N := 15) (ws' := Wc cA ad n s8) hx hb hts iX8_kind_2 tyX2 tyX2_ok nmX2 hown hK hP hD hS (7 + b_5) (atFlow hb_7) rfl 4 (by decide) (hts (.fieldLink RX8 78 "LinkQueues$Flow" "kind" "I") (by decide +kernel)) (fun _ h9 => h9) rfl (by decide +kernel) rfl rfl (Nat.le_of_ble_eq_true rfl) dX8_kind_51 (by rw [e_s8]; exact stFlow_4 hb_7 a2) (fun H locs hP hD hS => ?_)
          replace hwp := hwp s8 e_s8
          refine lv_aload hx hb dX8_kind_54 (lv_at hl 0 rfl) ?_
          refine lv_iload_n hx hb dX8_kind_56 rfl (lv_at hl 4 rfl) ?_
          obtain ⟨s9, e_s9⟩ : ∃ z, z = upI s8 37 b_5 a3 := ⟨_, rfl⟩
          refine st_put (D := (dC, dI)) (ci := 2) (v := .int a3) (ty := .int) (C := RX2) (T := TX2) (N := 15) (ws' := Wc cA ad n s9) hx hb hts iX8_kind_2 tyX2 tyX2_ok nmX2 hown hK hP hD hS (7 + b_5) (atFlow hb_7) rfl 5 (by decide) (hts (.fieldLink RX8 81 "LinkQueues$Flow" "quantum" "I") (by decide +kernel)) (fun _ h9 => h9) rfl (by decide +kernel) rfl rfl (Nat.le_of_ble_eq_true rfl) dX8_kind_57 (by rw [e_s9]; exact stFlow_5 hb_7 a3) (fun H locs hP hD hS => ?_)
          replace hwp := hwp s9 e_s9
          refine lv_aload hx hb dX8_kind_60 (lv_at hl 0 rfl) ?_
          refine va_get (D := (dC, dI)) (ci := 2) (v := .ref (ad 3 b_5)) (C := RX2) (T := TX2) (N := 15) hx hb hts iX8_kind_2 hown hK hP (7 + b_5) (atFlow hb_7) rfl 2 (by decide) (hts (.fieldLink RX8 84 "LinkQueues$Flow" "mean" "LLinkQueues$Mean;") (by decide +kernel)) (fun _ h9 => h9) rfl dX8_kind_62 ?_
          refine lv_aload_n hx hb dX8_kind_65 rfl (lv_at hl 1 rfl) ?_
          refine va_get (D := (dC, dI)) (ci := 8) (v := .int (sI s9 132 0)) (C := RX8) (T := TX8) (N := 11) hx hb hts iX8_kind_8 hown hK hP 0 atLq rfl 4 (by decide) (hts (.fieldLink RX8 36 "LinkQueues" "now" "I") (by decide +kernel)) (fun _ h9 => h9) rfl dX8_kind_66 ?_
          obtain ⟨hb_11, hwp⟩ := hwp
          have hF := fA hD hS hA
          refine va_callv (va_runV (As := [.int (sI s9 132 0)]) (rest := []) ⟨hx, hb, hml, hown, hts⟩ (c_X3_restart l dC dI cA ad n s9 b_5 (sI s9 132 0) H.size _ hwp) (cwV 1 hts gX8_kind_X3_restart rfl rfl rfl (by decide +kernel) ⟨Nat.le_of_ble_eq_true rfl, Nat.le_of_ble_eq_true rfl⟩) ⟨fbC, va_recv hK hP (ci := 3) (q0 := (19 + b_5)) rfl (atMean hb_11), fun U hU hW => ⟨rfl, by rw [hU], by rw [hU]; exact hP, va_K.moved hW.alike hK, hD.weaken (fun _ _ _ _ => trivial)⟩⟩ rfl rfl hl.1 rfl (lv_room (Nat.le_of_ble_eq_true rfl)) dX8_kind_69 ⟨Nat.le_of_ble_eq_true rfl, Nat.le_of_ble_eq_true rfl⟩) hS (fun q _ h => hF q h) hF (fun s10 t H1 locs ht hvm hwp hB hz1 hk1 hS => ?_)
          obtain ⟨hP1, hK1, hD1⟩ := hB
          rw [ht] at hP1
          have hD2 := hD1.weaken (fun _ q _ h => hF q.1 h)
          clear hP hD
          have hP := hP1
          have hD := hD2
          clear hP1 hD1 hD2 hK1 hk1 hz1 hF
          generalize H1 = H at hP hS ⊢
          refine lv_aload hx hb dX8_kind_72 (lv_at hl 0 rfl) ?_
          refine va_get (D := (dC, dI)) (ci := 2) (v := .ref (ad 1 b_5)) (C := RX2) (T := TX2) (N := 15) hx hb hts iX8_kind_2 hown hK hP (7 + b_5) (atFlow hb_7) rfl 3 (by decide) (hts (.fieldLink RX8 93 "LinkQueues$Flow" "delay" "LLinkQueues$Delay;") (by decide +kernel)) (fun _ h9 => h9) rfl dX8_kind_74 ?_
          obtain ⟨hb_13, hwp⟩ := hwp
          have hF := fA hD hS hA
          refine va_callv (va_runV (As := []) (rest := []) ⟨hx, hb, hml, hown, hts⟩ (c_X1_restart l dC dI cA ad n s10 b_5 H.size _ hwp) (cwV 0 hts gX8_kind_X1_restart rfl rfl rfl (by decide +kernel) ⟨Nat.le_of_ble_eq_true rfl, Nat.le_of_ble_eq_true rfl⟩) ⟨fbC, va_recv hK hP (ci := 1) (q0 := (25 + b_5)) rfl (atDelay hb_13), fun U hU hW => ⟨rfl, by rw [hU], by rw [hU]; exact hP, va_K.moved hW.alike hK, hD.weaken (fun _ _ _ _ => trivial)⟩⟩ rfl rfl hl.1 rfl (lv_room (Nat.le_of_ble_eq_true rfl)) dX8_kind_77 ⟨Nat.le_of_ble_eq_true rfl, Nat.le_of_ble_eq_true rfl⟩) hS (fun q _ h => hF q h) hF (fun s12 t H1 locs ht hvm hwp hB hz1 hk1 hS => ?_)
          obtain ⟨hP1, hK1, hD1⟩ := hB
          rw [ht] at hP1
          have hD2 := hD1.weaken (fun _ q _ h => hF q.1 h)
          clear hP hD
          have hP := hP1
          have hD := hD2
          clear hP1 hD1 hD2 hK1 hk1 hz1 hF
          generalize H1 = H at hP hS ⊢
          refine vx_ret ?_
          refine W.widen (k := 2) (n := 12) (Nat.le_of_ble_eq_true rfl) (Nat.le_of_ble_eq_true rfl) ?_
          exact W.vret hx hb hr (fun t ht hW => ⟨⟨s12, rfl, hwp, by rw [ht]; exact hP, va_K.moved hW.alike hK, hD⟩, hS.F ht⟩) hS.2.2 dX8_kind_80
        · replace hwp := hwp.2 c_35
          obtain ⟨sa_14, hstr⟩ := hT.2.2.2.2.2.2.2.2 1 (76, "a quantum is 1 to 3000 bytes") rfl
          exact vx_throwS (own := RX8) (cls := "java/lang/IllegalArgumentException") (text := "a quantum is 1 to 3000 bytes") (names := ["java/lang/RuntimeException", "java/lang/Exception"]) (ik := 69) (is := 76) (ic := 73) (sa := sa_14) (A := A) hx hb hfl hown (by decide +kernel) (by decide +kernel) (hts (.classLink RX8 69 "java/lang/IllegalArgumentException") (by decide +kernel)) (hts (.initialized "java/lang/IllegalArgumentException") (by decide +kernel)) hstr (hatA hT hts iX8_kind_A) goodA hT.1 hT.2.1 hS (hl.1.trans hml.symm) dX8_kind_38 dX8_kind_41 dX8_kind_42 dX8_kind_44 dX8_kind_47 (fun x hx => (hnt x hx).elim) (Nat.le_of_ble_eq_true rfl) (Nat.le_of_ble_eq_true rfl) (Nat.le_of_ble_eq_true rfl) (Nat.le_of_ble_eq_true rfl) hlocks (xThrow (ws := Wc cA ad n) (KX := KX) hP hK hD hS hwp) hS.2.2 (Nat.le_of_ble_eq_true rfl) (Nat.le_of_ble_eq_true rfl)
    · replace hwp := hwp.2 c_13
      obtain ⟨sa_15, hstr⟩ := hT.2.2.2.2.2.2.2.2 0 (71, "a kind is 0, 1 or 2") rfl
      exact vx_throwS (own := RX8) (cls := "java/lang/IllegalArgumentException") (text := "a kind is 0, 1 or 2") (names := ["java/lang/RuntimeException", "java/lang/Exception"]) (ik := 69) (is := 71) (ic := 73) (sa := sa_15) (A := A) hx hb hfl hown (by decide +kernel) (by decide +kernel) (hts (.classLink RX8 69 "java/lang/IllegalArgumentException") (by decide +kernel)) (hts (.initialized "java/lang/IllegalArgumentException") (by decide +kernel)) hstr (hatA hT hts iX8_kind_A) goodA hT.1 hT.2.1 hS (hl.1.trans hml.symm) dX8_kind_16 dX8_kind_19 dX8_kind_20 dX8_kind_22 dX8_kind_25 (fun x hx => (hnt x hx).elim) (Nat.le_of_ble_eq_true rfl) (Nat.le_of_ble_eq_true rfl) (Nat.le_of_ble_eq_true rfl) (Nat.le_of_ble_eq_true rfl) hlocks (xThrow (ws := Wc cA ad n) (KX := KX) hP hK hD hS hwp) hS.2.2 (Nat.le_of_ble_eq_true rfl) (Nat.le_of_ble_eq_true rfl)
def wp_X8_mean (n : Nat) (σ : ST) (a1 : Int32) (a2 : UInt64) (a4 : UInt64) (a6 : UInt64) (a8 : UInt64) (K : ST → Prop) (KX : String → ST → Prop) : Prop := wp_X8_flowAt n σ a1 (fun r2 s1 =>
(((Op.cmpValue (FP.dcmp a2 FP.dconst0) .l) < 0 → (KX "java/lang/IllegalArgumentException" s1)) ∧ (¬ ((Op.cmpValue (FP.dcmp a2 FP.dconst0) .l) < 0) → (((0 ≤ (Op.cmpValue (FP.dcmp a2 a4) .g) → (KX "java/lang/IllegalArgumentException" s1)) ∧ (¬ (0 ≤ (Op.cmpValue (FP.dcmp a2 a4) .g)) → ((((Op.cmpValue (FP.dcmp a4 4652007308841189376) .g) ≤ 0 → ((((Op.cmpValue (FP.dcmp a6 FP.dconst0) .l) ≤ 0 → (KX "java/lang/IllegalArgumentException" s1)) ∧ (¬ ((Op.cmpValue (FP.dcmp a6 FP.dconst0) .l) ≤ 0) → ((((Op.cmpValue (FP.dcmp a6 FP.dconst1) .g) ≤ 0 → ((((Op.cmpValue (FP.dcmp a8 FP.dconst0) .l) ≤ 0 → (KX "java/lang/IllegalArgumentException" s1)) ∧ (¬ ((Op.cmpValue (FP.dcmp a8 FP.dconst0) .l) ≤ 0) → ((((Op.cmpValue (FP.dcmp a8 FP.dconst1) .g) ≤ 0 → (∃ b_7, r2 = some b_7 ∧
b_7 < 6 ∧
b_7 < 6 ∧
wp_X3_tell n s1 b_7 a2 a4 a6 a8 (fun s10 =>
K s10
))) ∧ (¬ ((Op.cmpValue (FP.dcmp a8 FP.dconst1) .g) ≤ 0) → (KX "java/lang/IllegalArgumentException" s1)))))))) ∧ (¬ ((Op.cmpValue (FP.dcmp a6 FP.dconst1) .g) ≤ 0) → (KX "java/lang/IllegalArgumentException" s1)))))))) ∧ (¬ ((Op.cmpValue (FP.dcmp a4 4652007308841189376) .g) ≤ 0) → (KX "java/lang/IllegalArgumentException" s1)))))))))
) KX
set_option maxRecDepth 20000 in
theorem iX8_mean_2 : ∀ w ∈ wsX20, w ∈ wsX8_mean := by decide +kernel
theorem iX8_mean_A : ∀ w ∈ (vx_atS RX8 73 "java/lang/IllegalArgumentException" ["java/lang/RuntimeException", "java/lang/Exception"]).filter goodWord, w ∈ wsX8_mean := fun _ h => List.mem_cons_of_mem _ (List.mem_append_right _ h)
set_option maxHeartbeats 8000000 in
set_option maxRecDepth 100000 in
theorem c_X8_mean (l : Launch) (hfl : l.stackTraces = false) (dC : Nat → ClassId) (dI : Nat → Nat → Nat) (cA : Nat → ClassId) (ad : Nat → Nat → Nat) (n : Nat) (σ : ST) (a1 : Int32) (a2 : UInt64) (a4 : UInt64) (a6 : UInt64) (a8 : UInt64) (sz : Nat) (K : ST → Prop) (KX : String → ST → Prop) (hwp : wp_X8_mean n σ a1 a2 a4 a6 a8 K KX) : vx_Met l yX8_mean wsX8_mean ({ frames := 7, cells := 2, slots := 12, locals := 112 } : Room) (va_Pc [.ref (ad 8 0), .int a1, .double a2, .double a4, .double a6, .double a8] (preX dC dI cA (Wc cA ad n σ) sz)) (va_Qv K (atC dC dI cA (Wc cA ad n) (va_A (Wc cA ad n σ) sz)) (va_A (Wc cA ad n σ) sz)) (xQ dC dI cA (Wc cA ad n) KX (va_A (Wc cA ad n σ) sz)) 2 12 (va_A (Wc cA ad n σ) sz) := by
  refine vx_ofW (cc := cX8_mean) (maxL := 11) (ret := none) (by decide) rfl ?_
  intro p e s m args below meth c s₁ B hml hnt hv
  obtain ⟨rfl, ⟨hsz, hP, hK, hD0⟩, hT⟩ := hv
  have hx := B.exec
  have hb := B.bytes
  have hr := B.returns
  have hts := atoms_spec (ws := wsX8_mean) B.pre
  have hown : s.vm.findClass RX8 = some m.cls := findClass_of_methodNamed B.named
  have hlocks := B.notSynchronized
  subst hsz
  have hD := hD0.self (sz := s.heap.size)
  clear hD0
  generalize hAe : va_A (Wc cA ad n σ) s.heap.size = A at hD hT ⊢
  have hA : ∀ q : Nat, s.heap.size ≤ q → A q := fun q h => by rw [← hAe]; exact Or.inr h
  have hS : va_S A s.heap s.heap [] := va_S.rf
  have hkc : 0 ≤ 0 := Nat.le_refl 0
  have hks : 0 ≤ 0 := Nat.le_refl 0
  have hl := lv_entry ([.ref (ad 8 0), .int a1, .double a2, .double a4, .double a6, .double a8]) (n := 11) (Nat.le_of_ble_eq_true rfl)
  rw [lg_entry_eq]
  generalize (lg_sl ([.ref (ad 8 0), .int a1, .double a2, .double a4, .double a6, .double a8]) ++ List.replicate (11 - (lg_sl ([.ref (ad 8 0), .int a1, .double a2, .double a4, .double a6, .double a8])).length) Slot.unset).toArray = ls at hl ⊢
  have hl : lv_has ls 11 [(0, .ref (ad 8 0)), (1, .int a1), (2, .double a2), (4, .double a4), (6, .double a6), (8, .double a8)] := hl
  unfold wp_X8_mean at hwp
  generalize hHe : s.heap = H at hP ⊢
  have hS : va_S A s.heap H [] := by rw [← hHe]; exact va_S.rf
  clear hHe
  refine lv_aload_n hx hb dX8_mean_0 rfl (lv_at hl 0 rfl) ?_
  refine lv_iload_n hx hb dX8_mean_1 rfl (lv_at hl 1 rfl) ?_
  have hF := fA hD hS hA
  refine vx_calle (vx_runV (As := [.int a1]) (rest := []) ⟨hx, hb, hml, hown, hts⟩ (c_X8_flowAt l hfl dC dI cA ad n σ a1 H.size _ _ hwp) (cwV 1 hts gX8_mean_X8_flowAt rfl rfl rfl (by decide +kernel) ⟨Nat.le_of_ble_eq_true rfl, Nat.le_of_ble_eq_true rfl⟩) ⟨fbX, va_recv hK hP (ci := 8) (q0 := 0) rfl atLq, fun U hU hW => ⟨rfl, ⟨by rw [hU], by rw [hU]; exact hP, va_K.moved hW.alike hK, hD.weaken (fun _ _ _ _ => trivial)⟩, hT.move hW hS hU hF⟩⟩ rfl rfl hl.1 rfl (lv_room (Nat.le_of_ble_eq_true rfl)) dX8_mean_2 ⟨Nat.le_of_ble_eq_true rfl, Nat.le_of_ble_eq_true rfl⟩) hS (fun q _ h => hF q h) hF (fun q _ h => hF q h) (fun E ce q9 u t H1 locs ht hvm hpx hBX hz1 hk1 hS1 hce hcv hcl => ?_) (fun r2 s1 t H1 locs ht hvm hwp hB hz1 hk1 hS => ?_)
  · exact vx_out (fun x hx => (hnt x hx).elim) hlocks hce hcv hcl (xPass hS1 hpx hBX ht hvm hF) hS1.2.2 (Nat.le_of_ble_eq_true rfl) (Nat.le_of_ble_eq_true rfl)
  obtain ⟨hP1, hK1, hD1⟩ := hB
  rw [ht] at hP1
  have hD2 := hD1.weaken (fun _ q _ h => hF q.1 h)
  clear hP hD
  have hP := hP1
  have hD := hD2
  clear hP1 hD1 hD2 hK1 hk1 hz1 hF
  generalize H1 = H at hP hS ⊢
  refine q_astore (lv' := [(10, va_re (ad 2) r2), (0, .ref (ad 8 0)), (1, .int a1), (2, .double a2), (4, .double a4), (6, .double a6), (8, .double a8)]) hx hb dX8_mean_5 hl (by decide) rfl (fun ls hl => ?_)
  refine lv_dload_n hx hb dX8_mean_7 rfl (lv_at hl 3 rfl) ?_
  refine lv_dconst0 hx hb dX8_mean_8 ?_
  refine lv_dcmp hx hb dX8_mean_9 ?_
  refine lv_if_lt (tgt := 29) hx hb dX8_mean_10 (by decide) (fun c_10 => ?_) (fun c_10 => ?_)
  · replace hwp := hwp.1 c_10
    obtain ⟨sa_3, hstr⟩ := hT.2.2.2.2.2.2.2.2 2 (103, "not 0.0 <= low < high <= 1000.0") rfl
    exact vx_throwS (own := RX8) (cls := "java/lang/IllegalArgumentException") (text := "not 0.0 <= low < high <= 1000.0") (names := ["java/lang/RuntimeException", "java/lang/Exception"]) (ik := 69) (is := 103) (ic := 73) (sa := sa_3) (A := A) hx hb hfl hown (by decide +kernel) (by decide +kernel) (hts (.classLink RX8 69 "java/lang/IllegalArgumentException") (by decide +kernel)) (hts (.initialized "java/lang/IllegalArgumentException") (by decide +kernel)) hstr (hatA hT hts iX8_mean_A) goodA hT.1 hT.2.1 hS (hl.1.trans hml.symm) dX8_mean_29 dX8_mean_32 dX8_mean_33 dX8_mean_35 dX8_mean_38 (fun x hx => (hnt x hx).elim) (Nat.le_of_ble_eq_true rfl) (Nat.le_of_ble_eq_true rfl) (Nat.le_of_ble_eq_true rfl) (Nat.le_of_ble_eq_true rfl) hlocks (xThrow (ws := Wc cA ad n) (KX := KX) hP hK hD hS hwp) hS.2.2 (Nat.le_of_ble_eq_true rfl) (Nat.le_of_ble_eq_true rfl)
  · replace hwp := hwp.2 c_10
    refine lv_dload_n hx hb dX8_mean_13 rfl (lv_at hl 3 rfl) ?_
    refine lv_dload hx hb dX8_mean_14 (lv_at hl 4 rfl) ?_
    refine lv_dcmp hx hb dX8_mean_16 ?_
    refine lv_if_ge (tgt := 29) hx hb dX8_mean_17 (by decide) (fun c_17 => ?_) (fun c_17 => ?_)
    · replace hwp := hwp.1 c_17
      obtain ⟨sa_4, hstr⟩ := hT.2.2.2.2.2.2.2.2 2 (103, "not 0.0 <= low < high <= 1000.0") rfl
      exact vx_throwS (own := RX8) (cls := "java/lang/IllegalArgumentException") (text := "not 0.0 <= low < high <= 1000.0") (names := ["java/lang/RuntimeException", "java/lang/Exception"]) (ik := 69) (is := 103) (ic := 73) (sa := sa_4) (A := A) hx hb hfl hown (by decide +kernel) (by decide +kernel) (hts (.classLink RX8 69 "java/lang/IllegalArgumentException") (by decide +kernel)) (hts (.initialized "java/lang/IllegalArgumentException") (by decide +kernel)) hstr (hatA hT hts iX8_mean_A) goodA hT.1 hT.2.1 hS (hl.1.trans hml.symm) dX8_mean_29 dX8_mean_32 dX8_mean_33 dX8_mean_35 dX8_mean_38 (fun x hx => (hnt x hx).elim) (Nat.le_of_ble_eq_true rfl) (Nat.le_of_ble_eq_true rfl) (Nat.le_of_ble_eq_true rfl) (Nat.le_of_ble_eq_true rfl) hlocks (xThrow (ws := Wc cA ad n) (KX := KX) hP hK hD hS hwp) hS.2.2 (Nat.le_of_ble_eq_true rfl) (Nat.le_of_ble_eq_true rfl)
    · replace hwp := hwp.2 c_17
      refine lv_dload hx hb dX8_mean_20 (lv_at hl 4 rfl) ?_
      refine lv_ldc2d (v := 4652007308841189376) hx hb hown (hts (.constantDouble RX8 101 (4652007308841189376)) (by decide +kernel)) dX8_mean_22 ?_
      refine lv_dcmp hx hb dX8_mean_25 ?_
      refine lv_if_le (tgt := 39) hx hb dX8_mean_26 (by decide) (fun c_26 => ?_) (fun c_26 => ?_)
      · replace hwp := hwp.1 c_26
        refine lv_dload hx hb dX8_mean_39 (lv_at hl 5 rfl) ?_
        refine lv_dconst0 hx hb dX8_mean_41 ?_
        refine lv_dcmp hx hb dX8_mean_42 ?_
        refine lv_if_le (tgt := 53) hx hb dX8_mean_43 (by decide) (fun c_43 => ?_) (fun c_43 => ?_)
        · replace hwp := hwp.1 c_43
          obtain ⟨sa_5, hstr⟩ := hT.2.2.2.2.2.2.2.2 3 (105, "not 0.0 < top <= 1.0") rfl
          exact vx_throwS (own := RX8) (cls := "java/lang/IllegalArgumentException") (text := "not 0.0 < top <= 1.0") (names := ["java/lang/RuntimeException", "java/lang/Exception"]) (ik := 69) (is := 105) (ic := 73) (sa := sa_5) (A := A) hx hb hfl hown (by decide +kernel) (by decide +kernel) (hts (.classLink RX8 69 "java/lang/IllegalArgumentException") (by decide +kernel)) (hts (.initialized "java/lang/IllegalArgumentException") (by decide +kernel)) hstr (hatA hT hts iX8_mean_A) goodA hT.1 hT.2.1 hS (hl.1.trans hml.symm) dX8_mean_53 dX8_mean_56 dX8_mean_57 dX8_mean_59 dX8_mean_62 (fun x hx => (hnt x hx).elim) (Nat.le_of_ble_eq_true rfl) (Nat.le_of_ble_eq_true rfl) (Nat.le_of_ble_eq_true rfl) (Nat.le_of_ble_eq_true rfl) hlocks (xThrow (ws := Wc cA ad n) (KX := KX) hP hK hD hS hwp) hS.2.2 (Nat.le_of_ble_eq_true rfl) (Nat.le_of_ble_eq_true rfl)
        · replace hwp := hwp.2 c_43
          refine lv_dload hx hb dX8_mean_46 (lv_at hl 5 rfl) ?_
          refine lv_dconst1 hx hb dX8_mean_48 ?_
          refine lv_dcmp hx hb dX8_mean_49 ?_
          refine lv_if_le (tgt := 63) hx hb dX8_mean_50 (by decide) (fun c_50 => ?_) (fun c_50 => ?_)
          · replace hwp := hwp.1 c_50
            refine lv_dload hx hb dX8_mean_63 (lv_at hl 6 rfl) ?_
            refine lv_dconst0 hx hb dX8_mean_65 ?_
            refine lv_dcmp hx hb dX8_mean_66 ?_
            refine lv_if_le (tgt := 77) hx hb dX8_mean_67 (by decide) (fun c_67 => ?_) (fun c_67 => ?_)
            · replace hwp := hwp.1 c_67
              obtain ⟨sa_6, hstr⟩ := hT.2.2.2.2.2.2.2.2 4 (107, "not 0.0 < weight <= 1.0") rfl
              exact vx_throwS (own := RX8) (cls := "java/lang/IllegalArgumentException") (text := "not 0.0 < weight <= 1.0") (names := ["java/lang/RuntimeException", "java/lang/Exception"]) (ik := 69) (is := 107) (ic := 73) (sa := sa_6) (A := A) hx hb hfl hown (by decide +kernel) (by decide +kernel) (hts (.classLink RX8 69 "java/lang/IllegalArgumentException") (by decide +kernel)) (hts (.initialized "java/lang/IllegalArgumentException") (by decide +kernel)) hstr (hatA hT hts iX8_mean_A) goodA hT.1 hT.2.1 hS (hl.1.trans hml.symm) dX8_mean_77 dX8_mean_80 dX8_mean_81 dX8_mean_83 dX8_mean_86 (fun x hx => (hnt x hx).elim) (Nat.le_of_ble_eq_true rfl) (Nat.le_of_ble_eq_true rfl) (Nat.le_of_ble_eq_true rfl) (Nat.le_of_ble_eq_true rfl) hlocks (xThrow (ws := Wc cA ad n) (KX := KX) hP hK hD hS hwp) hS.2.2 (Nat.le_of_ble_eq_true rfl) (Nat.le_of_ble_eq_true rfl)
            · replace hwp := hwp.2 c_67
              refine lv_dload hx hb dX8_mean_70 (lv_at hl 6 rfl) ?_
              refine lv_dconst1 hx hb dX8_mean_72 ?_
              refine lv_dcmp hx hb dX8_mean_73 ?_
              refine lv_if_le (tgt := 87) hx hb dX8_mean_74 (by decide) (fun c_74 => ?_) (fun c_74 => ?_)
              · replace hwp := hwp.1 c_74
                refine q_aload hx hb dX8_mean_87 (lv_at hl 0 rfl) ?_
                obtain ⟨b_7, ho_8, hwp⟩ := hwp
                rw [ho_8]
                have hl : lv_has ls 11 [(10, .ref (ad 2 b_7)), (0, .ref (ad 8 0)), (1, .int a1), (2, .double a2), (4, .double a4), (6, .double a6), (8, .double a8)] := by rw [ho_8] at hl; exact hl
                obtain ⟨hb_9, hwp⟩ := hwp
                refine va_get (D := (dC, dI)) (ci := 2) (v := .ref (ad 3 b_7)) (C := RX2) (T := TX2) (N := 15) hx hb hts iX8_mean_2 hown hK hP (7 + b_7) (atFlow hb_9) rfl 2 (by decide) (hts (.fieldLink RX8 84 "LinkQueues$Flow" "mean" "LLinkQueues$Mean;") (by decide +kernel)) (fun _ h9 => h9) rfl dX8_mean_89 ?_
                refine lv_dload_n hx hb dX8_mean_92 rfl (lv_at hl 3 rfl) ?_
                refine lv_dload hx hb dX8_mean_93 (lv_at hl 4 rfl) ?_
                refine lv_dload hx hb dX8_mean_95 (lv_at hl 5 rfl) ?_
                refine lv_dload hx hb dX8_mean_97 (lv_at hl 6 rfl) ?_
                obtain ⟨hb_11, hwp⟩ := hwp
                have hF := fA hD hS hA
                refine va_callv (va_runV (As := [.double a2, .double a4, .double a6, .double a8]) (rest := []) ⟨hx, hb, hml, hown, hts⟩ (c_X3_tell l dC dI cA ad n s1 b_7 a2 a4 a6 a8 H.size _ hwp) (cwV 4 hts gX8_mean_X3_tell rfl rfl rfl (by decide +kernel) ⟨Nat.le_of_ble_eq_true rfl, Nat.le_of_ble_eq_true rfl⟩) ⟨fbC, va_recv hK hP (ci := 3) (q0 := (19 + b_7)) rfl (atMean hb_11), fun U hU hW => ⟨rfl, by rw [hU], by rw [hU]; exact hP, va_K.moved hW.alike hK, hD.weaken (fun _ _ _ _ => trivial)⟩⟩ rfl rfl hl.1 rfl (lv_room (Nat.le_of_ble_eq_true rfl)) dX8_mean_99 ⟨Nat.le_of_ble_eq_true rfl, Nat.le_of_ble_eq_true rfl⟩) hS (fun q _ h => hF q h) hF (fun s10 t H1 locs ht hvm hwp hB hz1 hk1 hS => ?_)
                obtain ⟨hP1, hK1, hD1⟩ := hB
                rw [ht] at hP1
                have hD2 := hD1.weaken (fun _ q _ h => hF q.1 h)
                clear hP hD
                have hP := hP1
                have hD := hD2
                clear hP1 hD1 hD2 hK1 hk1 hz1 hF
                generalize H1 = H at hP hS ⊢
                refine vx_ret ?_
                refine W.widen (k := 2) (n := 12) (Nat.le_of_ble_eq_true rfl) (Nat.le_of_ble_eq_true rfl) ?_
                exact W.vret hx hb hr (fun t ht hW => ⟨⟨s10, rfl, hwp, by rw [ht]; exact hP, va_K.moved hW.alike hK, hD⟩, hS.F ht⟩) hS.2.2 dX8_mean_102
              · replace hwp := hwp.2 c_74
                obtain ⟨sa_12, hstr⟩ := hT.2.2.2.2.2.2.2.2 4 (107, "not 0.0 < weight <= 1.0") rfl
                exact vx_throwS (own := RX8) (cls := "java/lang/IllegalArgumentException") (text := "not 0.0 < weight <= 1.0") (names := ["java/lang/RuntimeException", "java/lang/Exception"]) (ik := 69) (is := 107) (ic := 73) (sa := sa_12) (A := A) hx hb hfl hown (by decide +kernel) (by decide +kernel) (hts (.classLink RX8 69 "java/lang/IllegalArgumentException") (by decide +kernel)) (hts (.initialized "java/lang/IllegalArgumentException") (by decide +kernel)) hstr (hatA hT hts iX8_mean_A) goodA hT.1 hT.2.1 hS (hl.1.trans hml.symm) dX8_mean_77 dX8_mean_80 dX8_mean_81 dX8_mean_83 dX8_mean_86 (fun x hx => (hnt x hx).elim) (Nat.le_of_ble_eq_true rfl) (Nat.le_of_ble_eq_true rfl) (Nat.le_of_ble_eq_true rfl) (Nat.le_of_ble_eq_true rfl) hlocks (xThrow (ws := Wc cA ad n) (KX := KX) hP hK hD hS hwp) hS.2.2 (Nat.le_of_ble_eq_true rfl) (Nat.le_of_ble_eq_true rfl)
          · replace hwp := hwp.2 c_50
            obtain ⟨sa_13, hstr⟩ := hT.2.2.2.2.2.2.2.2 3 (105, "not 0.0 < top <= 1.0") rfl
            exact vx_throwS (own := RX8) (cls := "java/lang/IllegalArgumentException") (text := "not 0.0 < top <= 1.0") (names := ["java/lang/RuntimeException", "java/lang/Exception"]) (ik := 69) (is := 105) (ic := 73) (sa := sa_13) (A := A) hx hb hfl hown (by decide +kernel) (by decide +kernel) (hts (.classLink RX8 69 "java/lang/IllegalArgumentException") (by decide +kernel)) (hts (.initialized "java/lang/IllegalArgumentException") (by decide +kernel)) hstr (hatA hT hts iX8_mean_A) goodA hT.1 hT.2.1 hS (hl.1.trans hml.symm) dX8_mean_53 dX8_mean_56 dX8_mean_57 dX8_mean_59 dX8_mean_62 (fun x hx => (hnt x hx).elim) (Nat.le_of_ble_eq_true rfl) (Nat.le_of_ble_eq_true rfl) (Nat.le_of_ble_eq_true rfl) (Nat.le_of_ble_eq_true rfl) hlocks (xThrow (ws := Wc cA ad n) (KX := KX) hP hK hD hS hwp) hS.2.2 (Nat.le_of_ble_eq_true rfl) (Nat.le_of_ble_eq_true rfl)
      · replace hwp := hwp.2 c_26
        obtain ⟨sa_14, hstr⟩ := hT.2.2.2.2.2.2.2.2 2 (103, "not 0.0 <= low < high <= 1000.0") rfl
        exact vx_throwS (own := RX8) (cls := "java/lang/IllegalArgumentException") (text := "not 0.0 <= low < high <= 1000.0") (names := ["java/lang/RuntimeException", "java/lang/Exception"]) (ik := 69) (is := 103) (ic := 73) (sa := sa_14) (A := A) hx hb hfl hown (by decide +kernel) (by decide +kernel) (hts (.classLink RX8 69 "java/lang/IllegalArgumentException") (by decide +kernel)) (hts (.initialized "java/lang/IllegalArgumentException") (by decide +kernel)) hstr (hatA hT hts iX8_mean_A) goodA hT.1 hT.2.1 hS (hl.1.trans hml.symm) dX8_mean_29 dX8_mean_32 dX8_mean_33 dX8_mean_35 dX8_mean_38 (fun x hx => (hnt x hx).elim) (Nat.le_of_ble_eq_true rfl) (Nat.le_of_ble_eq_true rfl) (Nat.le_of_ble_eq_true rfl) (Nat.le_of_ble_eq_true rfl) hlocks (xThrow (ws := Wc cA ad n) (KX := KX) hP hK hD hS hwp) hS.2.2 (Nat.le_of_ble_eq_true rfl) (Nat.le_of_ble_eq_true rfl)
def wp_X8_delay (n : Nat) (σ : ST) (a1 : Int32) (a2 : UInt64) (a4 : UInt64) (K : ST → Prop) (KX : String → ST → Prop) : Prop := wp_X8_flowAt n σ a1 (fun r2 s1 =>
(((Op.cmpValue (FP.dcmp a2 FP.dconst0) .l) ≤ 0 → (KX "java/lang/IllegalArgumentException" s1)) ∧ (¬ ((Op.cmpValue (FP.dcmp a2 FP.dconst0) .l) ≤ 0) → (((0 < (Op.cmpValue (FP.dcmp a2 a4) .g) → (KX "java/lang/IllegalArgumentException" s1)) ∧ (¬ (0 < (Op.cmpValue (FP.dcmp a2 a4) .g)) → ((((Op.cmpValue (FP.dcmp a4 4666723172467343360) .g) ≤ 0 → (∃ b_5, r2 = some b_5 ∧
b_5 < 6 ∧
b_5 < 6 ∧
wp_X1_tell n s1 b_5 a2 a4 (fun s8 =>
K s8
))) ∧ (¬ ((Op.cmpValue (FP.dcmp a4 4666723172467343360) .g) ≤ 0) → (KX "java/lang/IllegalArgumentException" s1)))))))))
) KX
set_option maxRecDepth 20000 in
theorem iX8_delay_2 : ∀ w ∈ wsX20, w ∈ wsX8_delay := by decide +kernel
theorem iX8_delay_A : ∀ w ∈ (vx_atS RX8 73 "java/lang/IllegalArgumentException" ["java/lang/RuntimeException", "java/lang/Exception"]).filter goodWord, w ∈ wsX8_delay := fun _ h => List.mem_cons_of_mem _ (List.mem_append_right _ h)
set_option maxHeartbeats 8000000 in
set_option maxRecDepth 100000 in
theorem c_X8_delay (l : Launch) (hfl : l.stackTraces = false) (dC : Nat → ClassId) (dI : Nat → Nat → Nat) (cA : Nat → ClassId) (ad : Nat → Nat → Nat) (n : Nat) (σ : ST) (a1 : Int32) (a2 : UInt64) (a4 : UInt64) (sz : Nat) (K : ST → Prop) (KX : String → ST → Prop) (hwp : wp_X8_delay n σ a1 a2 a4 K KX) : vx_Met l yX8_delay wsX8_delay ({ frames := 7, cells := 2, slots := 12, locals := 112 } : Room) (va_Pc [.ref (ad 8 0), .int a1, .double a2, .double a4] (preX dC dI cA (Wc cA ad n σ) sz)) (va_Qv K (atC dC dI cA (Wc cA ad n) (va_A (Wc cA ad n σ) sz)) (va_A (Wc cA ad n σ) sz)) (xQ dC dI cA (Wc cA ad n) KX (va_A (Wc cA ad n σ) sz)) 2 12 (va_A (Wc cA ad n σ) sz) := by
  refine vx_ofW (cc := cX8_delay) (maxL := 7) (ret := none) (by decide) rfl ?_
  intro p e s m args below meth c s₁ B hml hnt hv
  obtain ⟨rfl, ⟨hsz, hP, hK, hD0⟩, hT⟩ := hv
  have hx := B.exec
  have hb := B.bytes
  have hr := B.returns
  have hts := atoms_spec (ws := wsX8_delay) B.pre
  have hown : s.vm.findClass RX8 = some m.cls := findClass_of_methodNamed B.named
  have hlocks := B.notSynchronized
  subst hsz
  have hD := hD0.self (sz := s.heap.size)
  clear hD0
  generalize hAe : va_A (Wc cA ad n σ) s.heap.size = A at hD hT ⊢
  have hA : ∀ q : Nat, s.heap.size ≤ q → A q := fun q h => by rw [← hAe]; exact Or.inr h
  have hS : va_S A s.heap s.heap [] := va_S.rf
  have hkc : 0 ≤ 0 := Nat.le_refl 0
  have hks : 0 ≤ 0 := Nat.le_refl 0
  have hl := lv_entry ([.ref (ad 8 0), .int a1, .double a2, .double a4]) (n := 7) (Nat.le_of_ble_eq_true rfl)
  rw [lg_entry_eq]
  generalize (lg_sl ([.ref (ad 8 0), .int a1, .double a2, .double a4]) ++ List.replicate (7 - (lg_sl ([.ref (ad 8 0), .int a1, .double a2, .double a4])).length) Slot.unset).toArray = ls at hl ⊢
  have hl : lv_has ls 7 [(0, .ref (ad 8 0)), (1, .int a1), (2, .double a2), (4, .double a4)] := hl
  unfold wp_X8_delay at hwp
  generalize hHe : s.heap = H at hP ⊢
  have hS : va_S A s.heap H [] := by rw [← hHe]; exact va_S.rf
  clear hHe
  refine lv_aload_n hx hb dX8_delay_0 rfl (lv_at hl 0 rfl) ?_
  refine lv_iload_n hx hb dX8_delay_1 rfl (lv_at hl 1 rfl) ?_
  have hF := fA hD hS hA
  refine vx_calle (vx_runV (As := [.int a1]) (rest := []) ⟨hx, hb, hml, hown, hts⟩ (c_X8_flowAt l hfl dC dI cA ad n σ a1 H.size _ _ hwp) (cwV 1 hts gX8_delay_X8_flowAt rfl rfl rfl (by decide +kernel) ⟨Nat.le_of_ble_eq_true rfl, Nat.le_of_ble_eq_true rfl⟩) ⟨fbX, va_recv hK hP (ci := 8) (q0 := 0) rfl atLq, fun U hU hW => ⟨rfl, ⟨by rw [hU], by rw [hU]; exact hP, va_K.moved hW.alike hK, hD.weaken (fun _ _ _ _ => trivial)⟩, hT.move hW hS hU hF⟩⟩ rfl rfl hl.1 rfl (lv_room (Nat.le_of_ble_eq_true rfl)) dX8_delay_2 ⟨Nat.le_of_ble_eq_true rfl, Nat.le_of_ble_eq_true rfl⟩) hS (fun q _ h => hF q h) hF (fun q _ h => hF q h) (fun E ce q9 u t H1 locs ht hvm hpx hBX hz1 hk1 hS1 hce hcv hcl => ?_) (fun r2 s1 t H1 locs ht hvm hwp hB hz1 hk1 hS => ?_)
  · exact vx_out (fun x hx => (hnt x hx).elim) hlocks hce hcv hcl (xPass hS1 hpx hBX ht hvm hF) hS1.2.2 (Nat.le_of_ble_eq_true rfl) (Nat.le_of_ble_eq_true rfl)
  obtain ⟨hP1, hK1, hD1⟩ := hB
  rw [ht] at hP1
  have hD2 := hD1.weaken (fun _ q _ h => hF q.1 h)
  clear hP hD
  have hP := hP1
  have hD := hD2
  clear hP1 hD1 hD2 hK1 hk1 hz1 hF
  generalize H1 = H at hP hS ⊢
  refine q_astore (lv' := [(6, va_re (ad 2) r2), (0, .ref (ad 8 0)), (1, .int a1), (2, .double a2), (4, .double a4)]) hx hb dX8_delay_5 hl (by decide) rfl (fun ls hl => ?_)
  refine lv_dload_n hx hb dX8_delay_7 rfl (lv_at hl 3 rfl) ?_
  refine lv_dconst0 hx hb dX8_delay_8 ?_
  refine lv_dcmp hx hb dX8_delay_9 ?_
  refine lv_if_le (tgt := 29) hx hb dX8_delay_10 (by decide) (fun c_10 => ?_) (fun c_10 => ?_)
  · replace hwp := hwp.1 c_10
    obtain ⟨sa_3, hstr⟩ := hT.2.2.2.2.2.2.2.2 5 (115, "not 0.0 < target <= interval <= 10000.0") rfl
    exact vx_throwS (own := RX8) (cls := "java/lang/IllegalArgumentException") (text := "not 0.0 < target <= interval <= 10000.0") (names := ["java/lang/RuntimeException", "java/lang/Exception"]) (ik := 69) (is := 115) (ic := 73) (sa := sa_3) (A := A) hx hb hfl hown (by decide +kernel) (by decide +kernel) (hts (.classLink RX8 69 "java/lang/IllegalArgumentException") (by decide +kernel)) (hts (.initialized "java/lang/IllegalArgumentException") (by decide +kernel)) hstr (hatA hT hts iX8_delay_A) goodA hT.1 hT.2.1 hS (hl.1.trans hml.symm) dX8_delay_29 dX8_delay_32 dX8_delay_33 dX8_delay_35 dX8_delay_38 (fun x hx => (hnt x hx).elim) (Nat.le_of_ble_eq_true rfl) (Nat.le_of_ble_eq_true rfl) (Nat.le_of_ble_eq_true rfl) (Nat.le_of_ble_eq_true rfl) hlocks (xThrow (ws := Wc cA ad n) (KX := KX) hP hK hD hS hwp) hS.2.2 (Nat.le_of_ble_eq_true rfl) (Nat.le_of_ble_eq_true rfl)
  · replace hwp := hwp.2 c_10
    refine lv_dload_n hx hb dX8_delay_13 rfl (lv_at hl 3 rfl) ?_
    refine lv_dload hx hb dX8_delay_14 (lv_at hl 4 rfl) ?_
    refine lv_dcmp hx hb dX8_delay_16 ?_
    refine lv_if_gt (tgt := 29) hx hb dX8_delay_17 (by decide) (fun c_17 => ?_) (fun c_17 => ?_)
    · replace hwp := hwp.1 c_17
      obtain ⟨sa_4, hstr⟩ := hT.2.2.2.2.2.2.2.2 5 (115, "not 0.0 < target <= interval <= 10000.0") rfl
      exact vx_throwS (own := RX8) (cls := "java/lang/IllegalArgumentException") (text := "not 0.0 < target <= interval <= 10000.0") (names := ["java/lang/RuntimeException", "java/lang/Exception"]) (ik := 69) (is := 115) (ic := 73) (sa := sa_4) (A := A) hx hb hfl hown (by decide +kernel) (by decide +kernel) (hts (.classLink RX8 69 "java/lang/IllegalArgumentException") (by decide +kernel)) (hts (.initialized "java/lang/IllegalArgumentException") (by decide +kernel)) hstr (hatA hT hts iX8_delay_A) goodA hT.1 hT.2.1 hS (hl.1.trans hml.symm) dX8_delay_29 dX8_delay_32 dX8_delay_33 dX8_delay_35 dX8_delay_38 (fun x hx => (hnt x hx).elim) (Nat.le_of_ble_eq_true rfl) (Nat.le_of_ble_eq_true rfl) (Nat.le_of_ble_eq_true rfl) (Nat.le_of_ble_eq_true rfl) hlocks (xThrow (ws := Wc cA ad n) (KX := KX) hP hK hD hS hwp) hS.2.2 (Nat.le_of_ble_eq_true rfl) (Nat.le_of_ble_eq_true rfl)
    · replace hwp := hwp.2 c_17
      refine lv_dload hx hb dX8_delay_20 (lv_at hl 4 rfl) ?_
      refine lv_ldc2d (v := 4666723172467343360) hx hb hown (hts (.constantDouble RX8 113 (4666723172467343360)) (by decide +kernel)) dX8_delay_22 ?_
      refine lv_dcmp hx hb dX8_delay_25 ?_
      refine lv_if_le (tgt := 39) hx hb dX8_delay_26 (by decide) (fun c_26 => ?_) (fun c_26 => ?_)
      · replace hwp := hwp.1 c_26
        refine q_aload hx hb dX8_delay_39 (lv_at hl 0 rfl) ?_
        obtain ⟨b_5, ho_6, hwp⟩ := hwp
        rw [ho_6]
        have hl : lv_has ls 7 [(6, .ref (ad 2 b_5)), (0, .ref (ad 8 0)), (1, .int a1), (2, .double a2), (4, .double a4)] := by rw [ho_6] at hl; exact hl
        obtain ⟨hb_7, hwp⟩ := hwp
        refine va_get (D := (dC, dI)) (ci := 2) (v := .ref (ad 1 b_5)) (C := RX2) (T := TX2) (N := 15) hx hb hts iX8_delay_2 hown hK hP (7 + b_5) (atFlow hb_7) rfl 3 (by decide) (hts (.fieldLink RX8 93 "LinkQueues$Flow" "delay" "LLinkQueues$Delay;") (by decide +kernel)) (fun _ h9 => h9) rfl dX8_delay_41 ?_
        refine lv_dload_n hx hb dX8_delay_44 rfl (lv_at hl 3 rfl) ?_
        refine lv_dload hx hb dX8_delay_45 (lv_at hl 4 rfl) ?_
        obtain ⟨hb_9, hwp⟩ := hwp
        have hF := fA hD hS hA
        refine va_callv (va_runV (As := [.double a2, .double a4]) (rest := []) ⟨hx, hb, hml, hown, hts⟩ (c_X1_tell l dC dI cA ad n s1 b_5 a2 a4 H.size _ hwp) (cwV 2 hts gX8_delay_X1_tell rfl rfl rfl (by decide +kernel) ⟨Nat.le_of_ble_eq_true rfl, Nat.le_of_ble_eq_true rfl⟩) ⟨fbC, va_recv hK hP (ci := 1) (q0 := (25 + b_5)) rfl (atDelay hb_9), fun U hU hW => ⟨rfl, by rw [hU], by rw [hU]; exact hP, va_K.moved hW.alike hK, hD.weaken (fun _ _ _ _ => trivial)⟩⟩ rfl rfl hl.1 rfl (lv_room (Nat.le_of_ble_eq_true rfl)) dX8_delay_47 ⟨Nat.le_of_ble_eq_true rfl, Nat.le_of_ble_eq_true rfl⟩) hS (fun q _ h => hF q h) hF (fun s8 t H1 locs ht hvm hwp hB hz1 hk1 hS => ?_)
        obtain ⟨hP1, hK1, hD1⟩ := hB
        rw [ht] at hP1
        have hD2 := hD1.weaken (fun _ q _ h => hF q.1 h)
        clear hP hD
        have hP := hP1
        have hD := hD2
        clear hP1 hD1 hD2 hK1 hk1 hz1 hF
        generalize H1 = H at hP hS ⊢
        refine vx_ret ?_
        refine W.widen (k := 2) (n := 12) (Nat.le_of_ble_eq_true rfl) (Nat.le_of_ble_eq_true rfl) ?_
        exact W.vret hx hb hr (fun t ht hW => ⟨⟨s8, rfl, hwp, by rw [ht]; exact hP, va_K.moved hW.alike hK, hD⟩, hS.F ht⟩) hS.2.2 dX8_delay_50
      · replace hwp := hwp.2 c_26
        obtain ⟨sa_10, hstr⟩ := hT.2.2.2.2.2.2.2.2 5 (115, "not 0.0 < target <= interval <= 10000.0") rfl
        exact vx_throwS (own := RX8) (cls := "java/lang/IllegalArgumentException") (text := "not 0.0 < target <= interval <= 10000.0") (names := ["java/lang/RuntimeException", "java/lang/Exception"]) (ik := 69) (is := 115) (ic := 73) (sa := sa_10) (A := A) hx hb hfl hown (by decide +kernel) (by decide +kernel) (hts (.classLink RX8 69 "java/lang/IllegalArgumentException") (by decide +kernel)) (hts (.initialized "java/lang/IllegalArgumentException") (by decide +kernel)) hstr (hatA hT hts iX8_delay_A) goodA hT.1 hT.2.1 hS (hl.1.trans hml.symm) dX8_delay_29 dX8_delay_32 dX8_delay_33 dX8_delay_35 dX8_delay_38 (fun x hx => (hnt x hx).elim) (Nat.le_of_ble_eq_true rfl) (Nat.le_of_ble_eq_true rfl) (Nat.le_of_ble_eq_true rfl) (Nat.le_of_ble_eq_true rfl) hlocks (xThrow (ws := Wc cA ad n) (KX := KX) hP hK hD hS hwp) hS.2.2 (Nat.le_of_ble_eq_true rfl) (Nat.le_of_ble_eq_true rfl)
def wp_X8_link (n : Nat) (σ : ST) (a1 : UInt64) (a3 : Int32) (K : ST → Prop) (KX : String → ST → Prop) : Prop := (((Op.cmpValue (FP.dcmp a1 4593671619917905920) .l) < 0 → (KX "java/lang/IllegalArgumentException" σ)) ∧ (¬ ((Op.cmpValue (FP.dcmp a1 4593671619917905920) .l) < 0) → ((((Op.cmpValue (FP.dcmp a1 4666723172467343360) .g) ≤ 0 → (((a3 < 1 → (KX "java/lang/IllegalArgumentException" σ)) ∧ (¬ (a3 < 1) → (((a3 ≤ 1000000 → (∀ s3, s3 = upD σ 137 0 a1 →
∀ s4, s4 = upI s3 136 0 a3 →
K s4)) ∧ (¬ (a3 ≤ 1000000) → (KX "java/lang/IllegalArgumentException" σ)))))))) ∧ (¬ ((Op.cmpValue (FP.dcmp a1 4666723172467343360) .g) ≤ 0) → (KX "java/lang/IllegalArgumentException" σ))))))
set_option maxRecDepth 20000 in
theorem iX8_link_8 : ∀ w ∈ wsX80, w ∈ wsX8_link := by decide +kernel
theorem iX8_link_A : ∀ w ∈ (vx_atS RX8 73 "java/lang/IllegalArgumentException" ["java/lang/RuntimeException", "java/lang/Exception"]).filter goodWord, w ∈ wsX8_link := fun _ h => List.mem_cons_of_mem _ (List.mem_append_right _ h)
set_option maxHeartbeats 8000000 in
set_option maxRecDepth 100000 in
theorem c_X8_link (l : Launch) (hfl : l.stackTraces = false) (dC : Nat → ClassId) (dI : Nat → Nat → Nat) (cA : Nat → ClassId) (ad : Nat → Nat → Nat) (n : Nat) (σ : ST) (a1 : UInt64) (a3 : Int32) (sz : Nat) (K : ST → Prop) (KX : String → ST → Prop) (hwp : wp_X8_link n σ a1 a3 K KX) : vx_Met l yX8_link wsX8_link ({ frames := 6, cells := 2, slots := 12, locals := 90 } : Room) (va_Pc [.ref (ad 8 0), .double a1, .int a3] (preX dC dI cA (Wc cA ad n σ) sz)) (va_Qv K (atC dC dI cA (Wc cA ad n) (va_A (Wc cA ad n σ) sz)) (va_A (Wc cA ad n σ) sz)) (xQ dC dI cA (Wc cA ad n) KX (va_A (Wc cA ad n σ) sz)) 2 12 (va_A (Wc cA ad n σ) sz) := by
  refine vx_ofW (cc := cX8_link) (maxL := 4) (ret := none) (by decide) rfl ?_
  intro p e s m args below meth c s₁ B hml hnt hv
  obtain ⟨rfl, ⟨hsz, hP, hK, hD0⟩, hT⟩ := hv
  have hx := B.exec
  have hb := B.bytes
  have hr := B.returns
  have hts := atoms_spec (ws := wsX8_link) B.pre
  have hown : s.vm.findClass RX8 = some m.cls := findClass_of_methodNamed B.named
  have hlocks := B.notSynchronized
  subst hsz
  have hD := hD0.self (sz := s.heap.size)
  clear hD0
  generalize hAe : va_A (Wc cA ad n σ) s.heap.size = A at hD hT ⊢
  have hA : ∀ q : Nat, s.heap.size ≤ q → A q := fun q h => by rw [← hAe]; exact Or.inr h
  have hS : va_S A s.heap s.heap [] := va_S.rf
  have hkc : 0 ≤ 0 := Nat.le_refl 0
  have hks : 0 ≤ 0 := Nat.le_refl 0
  have hl := lv_entry ([.ref (ad 8 0), .double a1, .int a3]) (n := 4) (Nat.le_of_ble_eq_true rfl)
  rw [lg_entry_eq]
  generalize (lg_sl ([.ref (ad 8 0), .double a1, .int a3]) ++ List.replicate (4 - (lg_sl ([.ref (ad 8 0), .double a1, .int a3])).length) Slot.unset).toArray = ls at hl ⊢
  have hl : lv_has ls 4 [(0, .ref (ad 8 0)), (1, .double a1), (3, .int a3)] := hl
  unfold wp_X8_link at hwp
  generalize hHe : s.heap = H at hP ⊢
  have hS : va_S A s.heap H [] := by rw [← hHe]; exact va_S.rf
  clear hHe
  refine lv_dload_n hx hb dX8_link_0 rfl (lv_at hl 1 rfl) ?_
  refine lv_ldc2d (v := 4593671619917905920) hx hb hown (hts (.constantDouble RX8 120 (4593671619917905920)) (by decide +kernel)) dX8_link_1 ?_
  refine lv_dcmp hx hb dX8_link_4 ?_
  refine lv_if_lt (tgt := 16) hx hb dX8_link_5 (by decide) (fun c_5 => ?_) (fun c_5 => ?_)
  · replace hwp := hwp.1 c_5
    obtain ⟨sa_1, hstr⟩ := hT.2.2.2.2.2.2.2.2 6 (122, "not 0.125 <= rate <= 10000.0") rfl
    exact vx_throwS (own := RX8) (cls := "java/lang/IllegalArgumentException") (text := "not 0.125 <= rate <= 10000.0") (names := ["java/lang/RuntimeException", "java/lang/Exception"]) (ik := 69) (is := 122) (ic := 73) (sa := sa_1) (A := A) hx hb hfl hown (by decide +kernel) (by decide +kernel) (hts (.classLink RX8 69 "java/lang/IllegalArgumentException") (by decide +kernel)) (hts (.initialized "java/lang/IllegalArgumentException") (by decide +kernel)) hstr (hatA hT hts iX8_link_A) goodA hT.1 hT.2.1 hS (hl.1.trans hml.symm) dX8_link_16 dX8_link_19 dX8_link_20 dX8_link_22 dX8_link_25 (fun x hx => (hnt x hx).elim) (Nat.le_of_ble_eq_true rfl) (Nat.le_of_ble_eq_true rfl) (Nat.le_of_ble_eq_true rfl) (Nat.le_of_ble_eq_true rfl) hlocks (xThrow (ws := Wc cA ad n) (KX := KX) hP hK hD hS hwp) hS.2.2 (Nat.le_of_ble_eq_true rfl) (Nat.le_of_ble_eq_true rfl)
  · replace hwp := hwp.2 c_5
    refine lv_dload_n hx hb dX8_link_8 rfl (lv_at hl 1 rfl) ?_
    refine lv_ldc2d (v := 4666723172467343360) hx hb hown (hts (.constantDouble RX8 113 (4666723172467343360)) (by decide +kernel)) dX8_link_9 ?_
    refine lv_dcmp hx hb dX8_link_12 ?_
    refine lv_if_le (tgt := 26) hx hb dX8_link_13 (by decide) (fun c_13 => ?_) (fun c_13 => ?_)
    · replace hwp := hwp.1 c_13
      refine lv_iload_n hx hb dX8_link_26 rfl (lv_at hl 2 rfl) ?_
      refine lv_iconst (v := 1) hx hb dX8_link_27 (by decide) ?_
      refine lv_icmp_lt (tgt := 37) hx hb dX8_link_28 (by decide) (fun c_28 => ?_) (fun c_28 => ?_)
      · replace hwp := hwp.1 c_28
        obtain ⟨sa_2, hstr⟩ := hT.2.2.2.2.2.2.2.2 7 (124, "a limit is 1 to 1000000 bytes") rfl
        exact vx_throwS (own := RX8) (cls := "java/lang/IllegalArgumentException") (text := "a limit is 1 to 1000000 bytes") (names := ["java/lang/RuntimeException", "java/lang/Exception"]) (ik := 69) (is := 124) (ic := 73) (sa := sa_2) (A := A) hx hb hfl hown (by decide +kernel) (by decide +kernel) (hts (.classLink RX8 69 "java/lang/IllegalArgumentException") (by decide +kernel)) (hts (.initialized "java/lang/IllegalArgumentException") (by decide +kernel)) hstr (hatA hT hts iX8_link_A) goodA hT.1 hT.2.1 hS (hl.1.trans hml.symm) dX8_link_37 dX8_link_40 dX8_link_41 dX8_link_43 dX8_link_46 (fun x hx => (hnt x hx).elim) (Nat.le_of_ble_eq_true rfl) (Nat.le_of_ble_eq_true rfl) (Nat.le_of_ble_eq_true rfl) (Nat.le_of_ble_eq_true rfl) hlocks (xThrow (ws := Wc cA ad n) (KX := KX) hP hK hD hS hwp) hS.2.2 (Nat.le_of_ble_eq_true rfl) (Nat.le_of_ble_eq_true rfl)
      · replace hwp := hwp.2 c_28
        refine lv_iload_n hx hb dX8_link_31 rfl (lv_at hl 2 rfl) ?_
        refine lv_ldc (v := 1000000) hx hb hown (hts (.constant RX8 49 (1000000)) (by decide +kernel)) dX8_link_32 ?_
        refine lv_icmp_le (tgt := 47) hx hb dX8_link_34 (by decide) (fun c_34 => ?_) (fun c_34 => ?_)
        · replace hwp := hwp.1 c_34
          refine lv_aload_n hx hb dX8_link_47 rfl (lv_at hl 0 rfl) ?_
          refine lv_dload_n hx hb dX8_link_48 rfl (lv_at hl 1 rfl) ?_
          obtain ⟨s3, e_s3⟩ : ∃ z, z = upD σ 137 0 a1 := ⟨_, rfl⟩
          refine st_put (D := (dC, dI)) (ci := 8) (v := .double a1) (ty := .double) (C := RX8) (T := TX8) (N := 11) (ws' := Wc cA ad n s3) hx hb hts iX8_link_8 tyX8 tyX8_ok nmX8 hown hK hP hD hS 0 atLq rfl 9 (by decide) (hts (.fieldLink RX8 55 "LinkQueues" "rate" "D") (by decide +kernel)) (fun _ h9 => h9) rfl (by decide +kernel) rfl rfl (Nat.le_of_ble_eq_true rfl) dX8_link_49 (by rw [e_s3]; exact stLq_9 a1) (fun H locs hP hD hS => ?_)
          replace hwp := hwp s3 e_s3
          refine lv_aload_n hx hb dX8_link_52 rfl (lv_at hl 0 rfl) ?_
          refine lv_iload_n hx hb dX8_link_53 rfl (lv_at hl 2 rfl) ?_
          obtain ⟨s4, e_s4⟩ : ∃ z, z = upI s3 136 0 a3 := ⟨_, rfl⟩
          refine st_put (D := (dC, dI)) (ci := 8) (v := .int a3) (ty := .int) (C := RX8) (T := TX8) (N := 11) (ws' := Wc cA ad n s4) hx hb hts iX8_link_8 tyX8 tyX8_ok nmX8 hown hK hP hD hS 0 atLq rfl 8 (by decide) (hts (.fieldLink RX8 50 "LinkQueues" "limit" "I") (by decide +kernel)) (fun _ h9 => h9) rfl (by decide +kernel) rfl rfl (Nat.le_of_ble_eq_true rfl) dX8_link_54 (by rw [e_s4]; exact stLq_8 a3) (fun H locs hP hD hS => ?_)
          replace hwp := hwp s4 e_s4
          refine vx_ret ?_
          refine W.widen (k := 2) (n := 12) (Nat.le_of_ble_eq_true rfl) (Nat.le_of_ble_eq_true rfl) ?_
          exact W.vret hx hb hr (fun t ht hW => ⟨⟨s4, rfl, hwp, by rw [ht]; exact hP, va_K.moved hW.alike hK, hD⟩, hS.F ht⟩) hS.2.2 dX8_link_57
        · replace hwp := hwp.2 c_34
          obtain ⟨sa_5, hstr⟩ := hT.2.2.2.2.2.2.2.2 7 (124, "a limit is 1 to 1000000 bytes") rfl
          exact vx_throwS (own := RX8) (cls := "java/lang/IllegalArgumentException") (text := "a limit is 1 to 1000000 bytes") (names := ["java/lang/RuntimeException", "java/lang/Exception"]) (ik := 69) (is := 124) (ic := 73) (sa := sa_5) (A := A) hx hb hfl hown (by decide +kernel) (by decide +kernel) (hts (.classLink RX8 69 "java/lang/IllegalArgumentException") (by decide +kernel)) (hts (.initialized "java/lang/IllegalArgumentException") (by decide +kernel)) hstr (hatA hT hts iX8_link_A) goodA hT.1 hT.2.1 hS (hl.1.trans hml.symm) dX8_link_37 dX8_link_40 dX8_link_41 dX8_link_43 dX8_link_46 (fun x hx => (hnt x hx).elim) (Nat.le_of_ble_eq_true rfl) (Nat.le_of_ble_eq_true rfl) (Nat.le_of_ble_eq_true rfl) (Nat.le_of_ble_eq_true rfl) hlocks (xThrow (ws := Wc cA ad n) (KX := KX) hP hK hD hS hwp) hS.2.2 (Nat.le_of_ble_eq_true rfl) (Nat.le_of_ble_eq_true rfl)
    · replace hwp := hwp.2 c_13
      obtain ⟨sa_6, hstr⟩ := hT.2.2.2.2.2.2.2.2 6 (122, "not 0.125 <= rate <= 10000.0") rfl
      exact vx_throwS (own := RX8) (cls := "java/lang/IllegalArgumentException") (text := "not 0.125 <= rate <= 10000.0") (names := ["java/lang/RuntimeException", "java/lang/Exception"]) (ik := 69) (is := 122) (ic := 73) (sa := sa_6) (A := A) hx hb hfl hown (by decide +kernel) (by decide +kernel) (hts (.classLink RX8 69 "java/lang/IllegalArgumentException") (by decide +kernel)) (hts (.initialized "java/lang/IllegalArgumentException") (by decide +kernel)) hstr (hatA hT hts iX8_link_A) goodA hT.1 hT.2.1 hS (hl.1.trans hml.symm) dX8_link_16 dX8_link_19 dX8_link_20 dX8_link_22 dX8_link_25 (fun x hx => (hnt x hx).elim) (Nat.le_of_ble_eq_true rfl) (Nat.le_of_ble_eq_true rfl) (Nat.le_of_ble_eq_true rfl) (Nat.le_of_ble_eq_true rfl) hlocks (xThrow (ws := Wc cA ad n) (KX := KX) hP hK hD hS hwp) hS.2.2 (Nat.le_of_ble_eq_true rfl) (Nat.le_of_ble_eq_true rfl)
def wp_X8_coin (n : Nat) (σ : ST) (a1 : UInt64) (K : Int32 → ST → Prop) (KX : String → ST → Prop) : Prop := (((Op.cmpValue (FP.dcmp a1 FP.dconst0) .l) < 0 → (KX "java/lang/IllegalArgumentException" σ)) ∧ (¬ ((Op.cmpValue (FP.dcmp a1 FP.dconst0) .l) < 0) → ((((Op.cmpValue (FP.dcmp a1 FP.dconst1) .g) < 0 → (wp_X0_isFull n σ (fun r3 s2 =>
((r3 = 0 → (wp_X0_add n s2 a1 (fun s4 =>
wp_X0_waiting n s4 (fun r6 s5 =>
K r6 s5
)
))) ∧ (¬ (r3 = 0) → (KX "java/lang/IllegalStateException" s2)))
))) ∧ (¬ ((Op.cmpValue (FP.dcmp a1 FP.dconst1) .g) < 0) → (KX "java/lang/IllegalArgumentException" σ))))))
set_option maxRecDepth 20000 in
theorem iX8_coin_8 : ∀ w ∈ wsX80, w ∈ wsX8_coin := by decide +kernel
theorem iX8_coin_A : ∀ w ∈ (vx_atS RX8 73 "java/lang/IllegalArgumentException" ["java/lang/RuntimeException", "java/lang/Exception"]).filter goodWord, w ∈ wsX8_coin := fun _ h => List.mem_cons_of_mem _ (List.mem_append_left _ (List.mem_append_right _ h))
theorem iX8_coin_S : ∀ w ∈ (vx_atS RX8 136 "java/lang/IllegalStateException" ["java/lang/RuntimeException", "java/lang/Exception"]).filter goodWord, w ∈ wsX8_coin := fun _ h => List.mem_cons_of_mem _ (List.mem_append_right _ h)
set_option maxHeartbeats 8000000 in
set_option maxRecDepth 100000 in
theorem c_X8_coin (l : Launch) (hfl : l.stackTraces = false) (dC : Nat → ClassId) (dI : Nat → Nat → Nat) (cA : Nat → ClassId) (ad : Nat → Nat → Nat) (n : Nat) (σ : ST) (a1 : UInt64) (sz : Nat) (K : Int32 → ST → Prop) (KX : String → ST → Prop) (hwp : wp_X8_coin n σ a1 K KX) : vx_Met l yX8_coin wsX8_coin ({ frames := 6, cells := 2, slots := 12, locals := 90 } : Room) (va_Pc [.ref (ad 8 0), .double a1] (preX dC dI cA (Wc cA ad n σ) sz)) (va_Qi K (atC dC dI cA (Wc cA ad n) (va_A (Wc cA ad n σ) sz)) (va_A (Wc cA ad n σ) sz)) (xQ dC dI cA (Wc cA ad n) KX (va_A (Wc cA ad n σ) sz)) 2 12 (va_A (Wc cA ad n σ) sz) := by
  refine vx_ofW (cc := cX8_coin) (maxL := 3) (ret := (some .int)) (by decide) rfl ?_
  intro p e s m args below meth c s₁ B hml hnt hv
  obtain ⟨rfl, ⟨hsz, hP, hK, hD0⟩, hT⟩ := hv
  have hx := B.exec
  have hb := B.bytes
  have hr := B.returns
  have hts := atoms_spec (ws := wsX8_coin) B.pre
  have hown : s.vm.findClass RX8 = some m.cls := findClass_of_methodNamed B.named
  have hlocks := B.notSynchronized
  subst hsz
  have hD := hD0.self (sz := s.heap.size)
  clear hD0
  generalize hAe : va_A (Wc cA ad n σ) s.heap.size = A at hD hT ⊢
  have hA : ∀ q : Nat, s.heap.size ≤ q → A q := fun q h => by rw [← hAe]; exact Or.inr h
  have hS : va_S A s.heap s.heap [] := va_S.rf
  have hkc : 0 ≤ 0 := Nat.le_refl 0
  have hks : 0 ≤ 0 := Nat.le_refl 0
  have hl := lv_entry ([.ref (ad 8 0), .double a1]) (n := 3) (Nat.le_of_ble_eq_true rfl)
  rw [lg_entry_eq]
  generalize (lg_sl ([.ref (ad 8 0), .double a1]) ++ List.replicate (3 - (lg_sl ([.ref (ad 8 0), .double a1])).length) Slot.unset).toArray = ls at hl ⊢
  have hl : lv_has ls 3 [(0, .ref (ad 8 0)), (1, .double a1)] := hl
  unfold wp_X8_coin at hwp
  generalize hHe : s.heap = H at hP ⊢
  have hS : va_S A s.heap H [] := by rw [← hHe]; exact va_S.rf
  clear hHe
  refine lv_dload_n hx hb dX8_coin_0 rfl (lv_at hl 1 rfl) ?_
  refine lv_dconst0 hx hb dX8_coin_1 ?_
  refine lv_dcmp hx hb dX8_coin_2 ?_
  refine lv_if_lt (tgt := 12) hx hb dX8_coin_3 (by decide) (fun c_3 => ?_) (fun c_3 => ?_)
  · replace hwp := hwp.1 c_3
    obtain ⟨sa_1, hstr⟩ := hT.2.2.2.2.2.2.2.2 8 (126, "not 0.0 <= coin < 1.0") rfl
    exact vx_throwS (own := RX8) (cls := "java/lang/IllegalArgumentException") (text := "not 0.0 <= coin < 1.0") (names := ["java/lang/RuntimeException", "java/lang/Exception"]) (ik := 69) (is := 126) (ic := 73) (sa := sa_1) (A := A) hx hb hfl hown (by decide +kernel) (by decide +kernel) (hts (.classLink RX8 69 "java/lang/IllegalArgumentException") (by decide +kernel)) (hts (.initialized "java/lang/IllegalArgumentException") (by decide +kernel)) hstr (hatA hT hts iX8_coin_A) goodA hT.1 hT.2.1 hS (hl.1.trans hml.symm) dX8_coin_12 dX8_coin_15 dX8_coin_16 dX8_coin_18 dX8_coin_21 (fun x hx => (hnt x hx).elim) (Nat.le_of_ble_eq_true rfl) (Nat.le_of_ble_eq_true rfl) (Nat.le_of_ble_eq_true rfl) (Nat.le_of_ble_eq_true rfl) hlocks (xThrow (ws := Wc cA ad n) (KX := KX) hP hK hD hS hwp) hS.2.2 (Nat.le_of_ble_eq_true rfl) (Nat.le_of_ble_eq_true rfl)
  · replace hwp := hwp.2 c_3
    refine lv_dload_n hx hb dX8_coin_6 rfl (lv_at hl 1 rfl) ?_
    refine lv_dconst1 hx hb dX8_coin_7 ?_
    refine lv_dcmp hx hb dX8_coin_8 ?_
    refine lv_if_lt (tgt := 22) hx hb dX8_coin_9 (by decide) (fun c_9 => ?_) (fun c_9 => ?_)
    · replace hwp := hwp.1 c_9
      refine lv_aload_n hx hb dX8_coin_22 rfl (lv_at hl 0 rfl) ?_
      refine va_get (D := (dC, dI)) (ci := 8) (v := .ref (ad 0 0)) (C := RX8) (T := TX8) (N := 11) hx hb hts iX8_coin_8 hown hK hP 0 atLq rfl 2 (by decide) (hts (.fieldLink RX8 25 "LinkQueues" "coins" "LLinkQueues$Coins;") (by decide +kernel)) (fun _ h9 => h9) rfl dX8_coin_23 ?_
      have hF := fA hD hS hA
      refine va_calli (va_runV (As := []) (rest := []) ⟨hx, hb, hml, hown, hts⟩ (c_X0_isFull l dC dI cA ad n σ H.size _ hwp) (cwV 0 hts gX8_coin_X0_isFull rfl rfl rfl (by decide +kernel) ⟨Nat.le_of_ble_eq_true rfl, Nat.le_of_ble_eq_true rfl⟩) ⟨fbC, va_recv hK hP (ci := 0) (q0 := 3) rfl atCoins, fun U hU hW => ⟨rfl, by rw [hU], by rw [hU]; exact hP, va_K.moved hW.alike hK, hD.weaken (fun _ _ _ _ => trivial)⟩⟩ rfl rfl hl.1 rfl (lv_room (Nat.le_of_ble_eq_true rfl)) dX8_coin_26 ⟨Nat.le_of_ble_eq_true rfl, Nat.le_of_ble_eq_true rfl⟩) hS (fun q _ h => hF q h) hF (fun r3 s2 t H1 locs ht hvm hwp hB hz1 hk1 hS => ?_)
      obtain ⟨hP1, hK1, hD1⟩ := hB
      rw [ht] at hP1
      have hD2 := hD1.weaken (fun _ q _ h => hF q.1 h)
      clear hP hD
      have hP := hP1
      have hD := hD2
      clear hP1 hD1 hD2 hK1 hk1 hz1 hF
      generalize H1 = H at hP hS ⊢
      refine lv_if_eq (tgt := 42) hx hb dX8_coin_29 (by decide) (fun c_29 => ?_) (fun c_29 => ?_)
      · replace hwp := hwp.1 c_29
        refine lv_aload_n hx hb dX8_coin_42 rfl (lv_at hl 0 rfl) ?_
        refine va_get (D := (dC, dI)) (ci := 8) (v := .ref (ad 0 0)) (C := RX8) (T := TX8) (N := 11) hx hb hts iX8_coin_8 hown hK hP 0 atLq rfl 2 (by decide) (hts (.fieldLink RX8 25 "LinkQueues" "coins" "LLinkQueues$Coins;") (by decide +kernel)) (fun _ h9 => h9) rfl dX8_coin_43 ?_
        refine lv_dload_n hx hb dX8_coin_46 rfl (lv_at hl 1 rfl) ?_
        have hF := fA hD hS hA
        refine va_callv (va_runV (As := [.double a1]) (rest := []) ⟨hx, hb, hml, hown, hts⟩ (c_X0_add l dC dI cA ad n s2 a1 H.size _ hwp) (cwV 1 hts gX8_coin_X0_add rfl rfl rfl (by decide +kernel) ⟨Nat.le_of_ble_eq_true rfl, Nat.le_of_ble_eq_true rfl⟩) ⟨fbC, va_recv hK hP (ci := 0) (q0 := 3) rfl atCoins, fun U hU hW => ⟨rfl, by rw [hU], by rw [hU]; exact hP, va_K.moved hW.alike hK, hD.weaken (fun _ _ _ _ => trivial)⟩⟩ rfl rfl hl.1 rfl (lv_room (Nat.le_of_ble_eq_true rfl)) dX8_coin_47 ⟨Nat.le_of_ble_eq_true rfl, Nat.le_of_ble_eq_true rfl⟩) hS (fun q _ h => hF q h) hF (fun s4 t H1 locs ht hvm hwp hB hz1 hk1 hS => ?_)
        obtain ⟨hP1, hK1, hD1⟩ := hB
        rw [ht] at hP1
        have hD2 := hD1.weaken (fun _ q _ h => hF q.1 h)
        clear hP hD
        have hP := hP1
        have hD := hD2
        clear hP1 hD1 hD2 hK1 hk1 hz1 hF
        generalize H1 = H at hP hS ⊢
        refine lv_aload_n hx hb dX8_coin_50 rfl (lv_at hl 0 rfl) ?_
        refine va_get (D := (dC, dI)) (ci := 8) (v := .ref (ad 0 0)) (C := RX8) (T := TX8) (N := 11) hx hb hts iX8_coin_8 hown hK hP 0 atLq rfl 2 (by decide) (hts (.fieldLink RX8 25 "LinkQueues" "coins" "LLinkQueues$Coins;") (by decide +kernel)) (fun _ h9 => h9) rfl dX8_coin_51 ?_
        have hF := fA hD hS hA
        refine va_calli (va_runV (As := []) (rest := []) ⟨hx, hb, hml, hown, hts⟩ (c_X0_waiting l dC dI cA ad n s4 H.size _ hwp) (cwV 0 hts gX8_coin_X0_waiting rfl rfl rfl (by decide +kernel) ⟨Nat.le_of_ble_eq_true rfl, Nat.le_of_ble_eq_true rfl⟩) ⟨fbC, va_recv hK hP (ci := 0) (q0 := 3) rfl atCoins, fun U hU hW => ⟨rfl, by rw [hU], by rw [hU]; exact hP, va_K.moved hW.alike hK, hD.weaken (fun _ _ _ _ => trivial)⟩⟩ rfl rfl hl.1 rfl (lv_room (Nat.le_of_ble_eq_true rfl)) dX8_coin_54 ⟨Nat.le_of_ble_eq_true rfl, Nat.le_of_ble_eq_true rfl⟩) hS (fun q _ h => hF q h) hF (fun r6 s5 t H1 locs ht hvm hwp hB hz1 hk1 hS => ?_)
        obtain ⟨hP1, hK1, hD1⟩ := hB
        rw [ht] at hP1
        have hD2 := hD1.weaken (fun _ q _ h => hF q.1 h)
        clear hP hD
        have hP := hP1
        have hD := hD2
        clear hP1 hD1 hD2 hK1 hk1 hz1 hF
        generalize H1 = H at hP hS ⊢
        refine vx_ret ?_
        refine W.widen (k := 2) (n := 12) (Nat.le_of_ble_eq_true rfl) (Nat.le_of_ble_eq_true rfl) ?_
        exact W.iret (v := r6) hx hb hr (fun t ht hW => ⟨⟨r6, s5, rfl, hwp, by rw [ht]; exact hP, va_K.moved hW.alike hK, hD⟩, hS.F ht⟩) hS.2.2 dX8_coin_57
      · replace hwp := hwp.2 c_29
        obtain ⟨sa_7, hstr⟩ := hT.2.2.2.2.2.2.2.2 9 (134, "64 coins wait") rfl
        exact vx_throwS (own := RX8) (cls := "java/lang/IllegalStateException") (text := "64 coins wait") (names := ["java/lang/RuntimeException", "java/lang/Exception"]) (ik := 132) (is := 134) (ic := 136) (sa := sa_7) (A := A) hx hb hfl hown (by decide +kernel) (by decide +kernel) (hts (.classLink RX8 132 "java/lang/IllegalStateException") (by decide +kernel)) (hts (.initialized "java/lang/IllegalStateException") (by decide +kernel)) hstr (hatS hT hts iX8_coin_S) goodS hT.1 hT.2.1 hS (hl.1.trans hml.symm) dX8_coin_32 dX8_coin_35 dX8_coin_36 dX8_coin_38 dX8_coin_41 (fun x hx => (hnt x hx).elim) (Nat.le_of_ble_eq_true rfl) (Nat.le_of_ble_eq_true rfl) (Nat.le_of_ble_eq_true rfl) (Nat.le_of_ble_eq_true rfl) hlocks (xThrow (ws := Wc cA ad n) (KX := KX) hP hK hD hS hwp) hS.2.2 (Nat.le_of_ble_eq_true rfl) (Nat.le_of_ble_eq_true rfl)
    · replace hwp := hwp.2 c_9
      obtain ⟨sa_8, hstr⟩ := hT.2.2.2.2.2.2.2.2 8 (126, "not 0.0 <= coin < 1.0") rfl
      exact vx_throwS (own := RX8) (cls := "java/lang/IllegalArgumentException") (text := "not 0.0 <= coin < 1.0") (names := ["java/lang/RuntimeException", "java/lang/Exception"]) (ik := 69) (is := 126) (ic := 73) (sa := sa_8) (A := A) hx hb hfl hown (by decide +kernel) (by decide +kernel) (hts (.classLink RX8 69 "java/lang/IllegalArgumentException") (by decide +kernel)) (hts (.initialized "java/lang/IllegalArgumentException") (by decide +kernel)) hstr (hatA hT hts iX8_coin_A) goodA hT.1 hT.2.1 hS (hl.1.trans hml.symm) dX8_coin_12 dX8_coin_15 dX8_coin_16 dX8_coin_18 dX8_coin_21 (fun x hx => (hnt x hx).elim) (Nat.le_of_ble_eq_true rfl) (Nat.le_of_ble_eq_true rfl) (Nat.le_of_ble_eq_true rfl) (Nat.le_of_ble_eq_true rfl) hlocks (xThrow (ws := Wc cA ad n) (KX := KX) hP hK hD hS hwp) hS.2.2 (Nat.le_of_ble_eq_true rfl) (Nat.le_of_ble_eq_true rfl)
def wp_X8_average (n : Nat) (σ : ST) (a1 : Int32) (K : UInt64 → ST → Prop) (KX : String → ST → Prop) : Prop := wp_X8_flowAt n σ a1 (fun r2 s1 =>
∃ b_3, r2 = some b_3 ∧
b_3 < 6 ∧
b_3 < 6 ∧
K (sD s1 52 b_3) s1
) KX
set_option maxRecDepth 20000 in
theorem iX8_average_2 : ∀ w ∈ wsX20, w ∈ wsX8_average := by decide +kernel
set_option maxRecDepth 20000 in
theorem iX8_average_3 : ∀ w ∈ wsX30, w ∈ wsX8_average := by decide +kernel
set_option maxHeartbeats 8000000 in
set_option maxRecDepth 100000 in
theorem c_X8_average (l : Launch) (hfl : l.stackTraces = false) (dC : Nat → ClassId) (dI : Nat → Nat → Nat) (cA : Nat → ClassId) (ad : Nat → Nat → Nat) (n : Nat) (σ : ST) (a1 : Int32) (sz : Nat) (K : UInt64 → ST → Prop) (KX : String → ST → Prop) (hwp : wp_X8_average n σ a1 K KX) : vx_Met l yX8_average wsX8_average ({ frames := 7, cells := 2, slots := 12, locals := 112 } : Room) (va_Pc [.ref (ad 8 0), .int a1] (preX dC dI cA (Wc cA ad n σ) sz)) (va_Qd K (atC dC dI cA (Wc cA ad n) (va_A (Wc cA ad n σ) sz)) (va_A (Wc cA ad n σ) sz)) (xQ dC dI cA (Wc cA ad n) KX (va_A (Wc cA ad n σ) sz)) 2 12 (va_A (Wc cA ad n σ) sz) := by
  refine vx_ofW (cc := cX8_average) (maxL := 2) (ret := (some .double)) (by decide) rfl ?_
  intro p e s m args below meth c s₁ B hml hnt hv
  obtain ⟨rfl, ⟨hsz, hP, hK, hD0⟩, hT⟩ := hv
  have hx := B.exec
  have hb := B.bytes
  have hr := B.returns
  have hts := atoms_spec (ws := wsX8_average) B.pre
  have hown : s.vm.findClass RX8 = some m.cls := findClass_of_methodNamed B.named
  have hlocks := B.notSynchronized
  subst hsz
  have hD := hD0.self (sz := s.heap.size)
  clear hD0
  generalize hAe : va_A (Wc cA ad n σ) s.heap.size = A at hD hT ⊢
  have hA : ∀ q : Nat, s.heap.size ≤ q → A q := fun q h => by rw [← hAe]; exact Or.inr h
  have hS : va_S A s.heap s.heap [] := va_S.rf
  have hkc : 0 ≤ 0 := Nat.le_refl 0
  have hks : 0 ≤ 0 := Nat.le_refl 0
  have hl := lv_entry ([.ref (ad 8 0), .int a1]) (n := 2) (Nat.le_of_ble_eq_true rfl)
  rw [lg_entry_eq]
  generalize (lg_sl ([.ref (ad 8 0), .int a1]) ++ List.replicate (2 - (lg_sl ([.ref (ad 8 0), .int a1])).length) Slot.unset).toArray = ls at hl ⊢
  have hl : lv_has ls 2 [(0, .ref (ad 8 0)), (1, .int a1)] := hl
  unfold wp_X8_average at hwp
  generalize hHe : s.heap = H at hP ⊢
  have hS : va_S A s.heap H [] := by rw [← hHe]; exact va_S.rf
  clear hHe
  refine lv_aload_n hx hb dX8_average_0 rfl (lv_at hl 0 rfl) ?_
  refine lv_iload_n hx hb dX8_average_1 rfl (lv_at hl 1 rfl) ?_
  have hF := fA hD hS hA
  refine vx_calle (vx_runV (As := [.int a1]) (rest := []) ⟨hx, hb, hml, hown, hts⟩ (c_X8_flowAt l hfl dC dI cA ad n σ a1 H.size _ _ hwp) (cwV 1 hts gX8_average_X8_flowAt rfl rfl rfl (by decide +kernel) ⟨Nat.le_of_ble_eq_true rfl, Nat.le_of_ble_eq_true rfl⟩) ⟨fbX, va_recv hK hP (ci := 8) (q0 := 0) rfl atLq, fun U hU hW => ⟨rfl, ⟨by rw [hU], by rw [hU]; exact hP, va_K.moved hW.alike hK, hD.weaken (fun _ _ _ _ => trivial)⟩, hT.move hW hS hU hF⟩⟩ rfl rfl hl.1 rfl (lv_room (Nat.le_of_ble_eq_true rfl)) dX8_average_2 ⟨Nat.le_of_ble_eq_true rfl, Nat.le_of_ble_eq_true rfl⟩) hS (fun q _ h => hF q h) hF (fun q _ h => hF q h) (fun E ce q9 u t H1 locs ht hvm hpx hBX hz1 hk1 hS1 hce hcv hcl => ?_) (fun r2 s1 t H1 locs ht hvm hwp hB hz1 hk1 hS => ?_)
  · exact vx_out (fun x hx => (hnt x hx).elim) hlocks hce hcv hcl (xPass hS1 hpx hBX ht hvm hF) hS1.2.2 (Nat.le_of_ble_eq_true rfl) (Nat.le_of_ble_eq_true rfl)
  obtain ⟨hP1, hK1, hD1⟩ := hB
  rw [ht] at hP1
  have hD2 := hD1.weaken (fun _ q _ h => hF q.1 h)
  clear hP hD
  have hP := hP1
  have hD := hD2
  clear hP1 hD1 hD2 hK1 hk1 hz1 hF
  generalize H1 = H at hP hS ⊢
  obtain ⟨b_3, ho_4, hwp⟩ := hwp
  rw [ho_4]
  obtain ⟨hb_5, hwp⟩ := hwp
  refine va_get (D := (dC, dI)) (ci := 2) (v := .ref (ad 3 b_3)) (C := RX2) (T := TX2) (N := 15) hx hb hts iX8_average_2 hown hK hP (7 + b_3) (atFlow hb_5) rfl 2 (by decide) (hts (.fieldLink RX8 84 "LinkQueues$Flow" "mean" "LLinkQueues$Mean;") (by decide +kernel)) (fun _ h9 => h9) rfl dX8_average_5 ?_
  obtain ⟨hb_6, hwp⟩ := hwp
  refine va_get (D := (dC, dI)) (ci := 3) (v := .double (sD s1 52 b_3)) (C := RX3) (T := TX3) (N := 7) hx hb hts iX8_average_3 hown hK hP (19 + b_3) (atMean hb_6) rfl 4 (by decide) (hts (.fieldLink RX8 206 "LinkQueues$Mean" "average" "D") (by decide +kernel)) (fun _ h9 => h9) rfl dX8_average_8 ?_
  refine vx_ret ?_
  refine W.widen (k := 2) (n := 12) (Nat.le_of_ble_eq_true rfl) (Nat.le_of_ble_eq_true rfl) ?_
  exact W.dret (v := (sD s1 52 b_3)) hx hb hr (fun t ht hW => ⟨⟨(sD s1 52 b_3), s1, rfl, hwp, by rw [ht]; exact hP, va_K.moved hW.alike hK, hD⟩, hS.F ht⟩) hS.2.2 dX8_average_11
def wp_X8_next (n : Nat) (σ : ST) (a1 : Int32) (K : UInt64 → ST → Prop) (KX : String → ST → Prop) : Prop := wp_X8_flowAt n σ a1 (fun r2 s1 =>
∃ b_3, r2 = some b_3 ∧
b_3 < 6 ∧
b_3 < 6 ∧
(((sI s1 20 b_3) = 0 → (K 13830554455654793216 s1)) ∧ (¬ ((sI s1 20 b_3) = 0) → (K (sD s1 21 b_3) s1)))
) KX
set_option maxRecDepth 20000 in
theorem iX8_next_2 : ∀ w ∈ wsX20, w ∈ wsX8_next := by decide +kernel
set_option maxRecDepth 20000 in
theorem iX8_next_1 : ∀ w ∈ wsX10, w ∈ wsX8_next := by decide +kernel
set_option maxHeartbeats 8000000 in
set_option maxRecDepth 100000 in
theorem c_X8_next (l : Launch) (hfl : l.stackTraces = false) (dC : Nat → ClassId) (dI : Nat → Nat → Nat) (cA : Nat → ClassId) (ad : Nat → Nat → Nat) (n : Nat) (σ : ST) (a1 : Int32) (sz : Nat) (K : UInt64 → ST → Prop) (KX : String → ST → Prop) (hwp : wp_X8_next n σ a1 K KX) : vx_Met l yX8_next wsX8_next ({ frames := 7, cells := 2, slots := 12, locals := 112 } : Room) (va_Pc [.ref (ad 8 0), .int a1] (preX dC dI cA (Wc cA ad n σ) sz)) (va_Qd K (atC dC dI cA (Wc cA ad n) (va_A (Wc cA ad n σ) sz)) (va_A (Wc cA ad n σ) sz)) (xQ dC dI cA (Wc cA ad n) KX (va_A (Wc cA ad n σ) sz)) 2 12 (va_A (Wc cA ad n σ) sz) := by
  refine vx_ofW (cc := cX8_next) (maxL := 3) (ret := (some .double)) (by decide) rfl ?_
  intro p e s m args below meth c s₁ B hml hnt hv
  obtain ⟨rfl, ⟨hsz, hP, hK, hD0⟩, hT⟩ := hv
  have hx := B.exec
  have hb := B.bytes
  have hr := B.returns
  have hts := atoms_spec (ws := wsX8_next) B.pre
  have hown : s.vm.findClass RX8 = some m.cls := findClass_of_methodNamed B.named
  have hlocks := B.notSynchronized
  subst hsz
  have hD := hD0.self (sz := s.heap.size)
  clear hD0
  generalize hAe : va_A (Wc cA ad n σ) s.heap.size = A at hD hT ⊢
  have hA : ∀ q : Nat, s.heap.size ≤ q → A q := fun q h => by rw [← hAe]; exact Or.inr h
  have hS : va_S A s.heap s.heap [] := va_S.rf
  have hkc : 0 ≤ 0 := Nat.le_refl 0
  have hks : 0 ≤ 0 := Nat.le_refl 0
  have hl := lv_entry ([.ref (ad 8 0), .int a1]) (n := 3) (Nat.le_of_ble_eq_true rfl)
  rw [lg_entry_eq]
  generalize (lg_sl ([.ref (ad 8 0), .int a1]) ++ List.replicate (3 - (lg_sl ([.ref (ad 8 0), .int a1])).length) Slot.unset).toArray = ls at hl ⊢
  have hl : lv_has ls 3 [(0, .ref (ad 8 0)), (1, .int a1)] := hl
  unfold wp_X8_next at hwp
  generalize hHe : s.heap = H at hP ⊢
  have hS : va_S A s.heap H [] := by rw [← hHe]; exact va_S.rf
  clear hHe
  refine lv_aload_n hx hb dX8_next_0 rfl (lv_at hl 0 rfl) ?_
  refine lv_iload_n hx hb dX8_next_1 rfl (lv_at hl 1 rfl) ?_
  have hF := fA hD hS hA
  refine vx_calle (vx_runV (As := [.int a1]) (rest := []) ⟨hx, hb, hml, hown, hts⟩ (c_X8_flowAt l hfl dC dI cA ad n σ a1 H.size _ _ hwp) (cwV 1 hts gX8_next_X8_flowAt rfl rfl rfl (by decide +kernel) ⟨Nat.le_of_ble_eq_true rfl, Nat.le_of_ble_eq_true rfl⟩) ⟨fbX, va_recv hK hP (ci := 8) (q0 := 0) rfl atLq, fun U hU hW => ⟨rfl, ⟨by rw [hU], by rw [hU]; exact hP, va_K.moved hW.alike hK, hD.weaken (fun _ _ _ _ => trivial)⟩, hT.move hW hS hU hF⟩⟩ rfl rfl hl.1 rfl (lv_room (Nat.le_of_ble_eq_true rfl)) dX8_next_2 ⟨Nat.le_of_ble_eq_true rfl, Nat.le_of_ble_eq_true rfl⟩) hS (fun q _ h => hF q h) hF (fun q _ h => hF q h) (fun E ce q9 u t H1 locs ht hvm hpx hBX hz1 hk1 hS1 hce hcv hcl => ?_) (fun r2 s1 t H1 locs ht hvm hwp hB hz1 hk1 hS => ?_)
  · exact vx_out (fun x hx => (hnt x hx).elim) hlocks hce hcv hcl (xPass hS1 hpx hBX ht hvm hF) hS1.2.2 (Nat.le_of_ble_eq_true rfl) (Nat.le_of_ble_eq_true rfl)
  obtain ⟨hP1, hK1, hD1⟩ := hB
  rw [ht] at hP1
  have hD2 := hD1.weaken (fun _ q _ h => hF q.1 h)
  clear hP hD
  have hP := hP1
  have hD := hD2
  clear hP1 hD1 hD2 hK1 hk1 hz1 hF
  generalize H1 = H at hP hS ⊢
  obtain ⟨b_3, ho_4, hwp⟩ := hwp
  rw [ho_4]
  obtain ⟨hb_5, hwp⟩ := hwp
  refine va_get (D := (dC, dI)) (ci := 2) (v := .ref (ad 1 b_3)) (C := RX2) (T := TX2) (N := 15) hx hb hts iX8_next_2 hown hK hP (7 + b_3) (atFlow hb_5) rfl 3 (by decide) (hts (.fieldLink RX8 93 "LinkQueues$Flow" "delay" "LLinkQueues$Delay;") (by decide +kernel)) (fun _ h9 => h9) rfl dX8_next_5 ?_
  refine lv_astore_n (lv' := [(2, .ref (ad 1 b_3)), (0, .ref (ad 8 0)), (1, .int a1)]) hx hb dX8_next_8 rfl hl (by decide) rfl (fun ls hl => ?_)
  refine lv_aload_n hx hb dX8_next_9 rfl (lv_at hl 0 rfl) ?_
  obtain ⟨hb_6, hwp⟩ := hwp
  refine va_get (D := (dC, dI)) (ci := 1) (v := .int (sI s1 20 b_3)) (C := RX1) (T := TX1) (N := 8) hx hb hts iX8_next_1 hown hK hP (25 + b_3) (atDelay hb_6) rfl 4 (by decide) (hts (.fieldLink RX8 209 "LinkQueues$Delay" "drops" "Z") (by decide +kernel)) (fun _ h9 => h9) rfl dX8_next_10 ?_
  refine lv_if_eq (tgt := 23) hx hb dX8_next_13 (by decide) (fun c_13 => ?_) (fun c_13 => ?_)
  · replace hwp := hwp.1 c_13
    refine lv_ldc2d (v := 13830554455654793216) hx hb hown (hts (.constantDouble RX8 216 (13830554455654793216)) (by decide +kernel)) dX8_next_23 ?_
    refine vx_ret ?_
    refine W.widen (k := 2) (n := 12) (Nat.le_of_ble_eq_true rfl) (Nat.le_of_ble_eq_true rfl) ?_
    exact W.dret (v := 13830554455654793216) hx hb hr (fun t ht hW => ⟨⟨13830554455654793216, s1, rfl, hwp, by rw [ht]; exact hP, va_K.moved hW.alike hK, hD⟩, hS.F ht⟩) hS.2.2 dX8_next_26
  · replace hwp := hwp.2 c_13
    refine lv_aload_n hx hb dX8_next_16 rfl (lv_at hl 0 rfl) ?_
    refine va_get (D := (dC, dI)) (ci := 1) (v := .double (sD s1 21 b_3)) (C := RX1) (T := TX1) (N := 8) hx hb hts iX8_next_1 hown hK hP (25 + b_3) (atDelay hb_6) rfl 5 (by decide) (hts (.fieldLink RX8 213 "LinkQueues$Delay" "next" "D") (by decide +kernel)) (fun _ h9 => h9) rfl dX8_next_17 ?_
    refine lv_goto (tgt := 26) hx hb dX8_next_20 (by decide) ?_
    refine vx_ret ?_
    refine W.widen (k := 2) (n := 12) (Nat.le_of_ble_eq_true rfl) (Nat.le_of_ble_eq_true rfl) ?_
    exact W.dret (v := (sD s1 21 b_3)) hx hb hr (fun t ht hW => ⟨⟨(sD s1 21 b_3), s1, rfl, hwp, by rw [ht]; exact hP, va_K.moved hW.alike hK, hD⟩, hS.F ht⟩) hS.2.2 dX8_next_26
