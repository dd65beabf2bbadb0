def wp_X9_come_J113 (a1 : Int32) (a2 : Int32) (a3 : Int32) (K : Int32 → ST → Prop) (J71 : ST → Int32 → Int32 → Prop) (z113 : ST) : Prop := vp_in ((10 * a1) + 2) 60 ∧
vp_in ((10 * a1) + 2) 60 ∧
∀ s13, s13 = upI z113 1029 ((10 * a1) + 2).toNatClampNeg ((sI z113 1029 ((10 * a1) + 2).toNatClampNeg) + 1) →
K (-1) s13
def wp_X9_come_J167 (a1 : Int32) (a2 : Int32) (a3 : Int32) (K : Int32 → ST → Prop) (J71 : ST → Int32 → Int32 → Prop) (G113 : ST → Prop) (z167 : ST) : Prop := vp_in ((10 * a1) + 3) 60 ∧
vp_in ((10 * a1) + 3) 60 ∧
∀ s17, s17 = upI z167 1029 ((10 * a1) + 3).toNatClampNeg ((sI z167 1029 ((10 * a1) + 3).toNatClampNeg) + 1) →
K (-1) s17
def wp_X9_come_J241 (a1 : Int32) (a2 : Int32) (a3 : Int32) (y0_149 : Int32) (s3 : ST) (K : Int32 → ST → Prop) (J71 : ST → Int32 → Int32 → Prop) (G113 : ST → Prop) (G167 : ST → Prop) (z241 : ST) : Prop := vp_in a1 6 ∧
vp_in a1 6 ∧
vp_in a1 6 ∧
∀ s22, s22 = upI z241 1023 a1.toNatClampNeg ((sI z241 1023 a1.toNatClampNeg) + 1) →
vp_in ((100 * a1) + (sI z241 1023 a1.toNatClampNeg)) 600 ∧
∀ s24, s24 = upI s22 1024 ((100 * a1) + (sI z241 1023 a1.toNatClampNeg)).toNatClampNeg (sI s3 1002 0) →
vp_in ((100 * a1) + (sI z241 1023 a1.toNatClampNeg)) 600 ∧
∀ s26, s26 = upI s24 1025 ((100 * a1) + (sI z241 1023 a1.toNatClampNeg)).toNatClampNeg a2 →
vp_in ((100 * a1) + (sI z241 1023 a1.toNatClampNeg)) 600 ∧
∀ s28, s28 = upI s26 1026 ((100 * a1) + (sI z241 1023 a1.toNatClampNeg)).toNatClampNeg (sI s26 1001 0) →
vp_in ((100 * a1) + (sI z241 1023 a1.toNatClampNeg)) 600 ∧
isB a3 ∧
∀ s30, s30 = upI s28 1027 ((100 * a1) + (sI z241 1023 a1.toNatClampNeg)).toNatClampNeg a3 →
((¬ y0_149 = 2 → (vp_in ((100 * a1) + (sI z241 1023 a1.toNatClampNeg)) 600 ∧
∀ s33, s33 = upI s30 1028 ((100 * a1) + (sI z241 1023 a1.toNatClampNeg)).toNatClampNeg 0 →
K (sI s3 1002 0) s33)) ∧ (y0_149 = 2 → (vp_in ((100 * a1) + (sI z241 1023 a1.toNatClampNeg)) 600 ∧
∀ s35, s35 = upI s30 1028 ((100 * a1) + (sI z241 1023 a1.toNatClampNeg)).toNatClampNeg 1 →
K (sI s3 1002 0) s35)))
def wp_X9_come_J205 (a1 : Int32) (a2 : Int32) (a3 : Int32) (y0_149 : Int32) (s3 : ST) (K : Int32 → ST → Prop) (J71 : ST → Int32 → Int32 → Prop) (G113 : ST → Prop) (G167 : ST → Prop) (z205 : ST) : Prop := vp_in a1 6 ∧
((¬ (sI z205 1023 a1.toNatClampNeg) = 0 → (wp_X9_come_J241 a1 a2 a3 y0_149 s3 K (J71) (G113) (G167) z205)) ∧ ((sI z205 1023 a1.toNatClampNeg) = 0 → (vp_in (sI z205 1030 0) 6 ∧
∀ s37, s37 = upI z205 1031 (sI z205 1030 0).toNatClampNeg a1 →
∀ s38, s38 = upI s37 1030 0 ((sI s37 1030 0) + 1) →
vp_in a1 6 ∧
∀ s40, s40 = upI s38 1032 a1.toNatClampNeg 0 →
wp_X9_come_J241 a1 a2 a3 y0_149 s3 K (J71) (G113) (G167) s40)))
def wp_X9_come_J184 (a1 : Int32) (a2 : Int32) (a3 : Int32) (y0_149 : Int32) (s3 : ST) (K : Int32 → ST → Prop) (J71 : ST → Int32 → Int32 → Prop) (G113 : ST → Prop) (G167 : ST → Prop) (z184 : ST) : Prop := ((¬ y0_149 = 2 → (wp_X9_come_J205 a1 a2 a3 y0_149 s3 K (J71) (G113) (G167) z184)) ∧ (y0_149 = 2 → (vp_in ((10 * a1) + 5) 60 ∧
vp_in ((10 * a1) + 5) 60 ∧
∀ s43, s43 = upI z184 1029 ((10 * a1) + 5).toNatClampNeg ((sI z184 1029 ((10 * a1) + 5).toNatClampNeg) + 1) →
wp_X9_come_J205 a1 a2 a3 y0_149 s3 K (J71) (G113) (G167) s43)))
def wp_X9_come_J149 (a1 : Int32) (a2 : Int32) (a3 : Int32) (s3 : ST) (K : Int32 → ST → Prop) (J71 : ST → Int32 → Int32 → Prop) (G113 : ST → Prop) (z149 : ST) (y0_149 : Int32) : Prop := ((y0_149 = 1 → (wp_X9_come_J167 a1 a2 a3 K (J71) (G113) z149)) ∧ (¬ (y0_149 = 1) → (((¬ y0_149 = 2 → (wp_X9_come_J184 a1 a2 a3 y0_149 s3 K (J71) (G113) (wp_X9_come_J167 a1 a2 a3 K (J71) (G113)) z149)) ∧ (y0_149 = 2 → (((¬ a3 = 0 → (wp_X9_come_J184 a1 a2 a3 y0_149 s3 K (J71) (G113) (wp_X9_come_J167 a1 a2 a3 K (J71) (G113)) z149)) ∧ (a3 = 0 → (wp_X9_come_J167 a1 a2 a3 K (J71) (G113) z149)))))))))
def wp_X9_come_L71 (a1 : Int32) (a2 : Int32) (a3 : Int32) (s3 : ST) (K : Int32 → ST → Prop) : Nat → ST → Int32 → Int32 → Prop
  | 0 => fun _ _ _ => False
  | fu71 + 1 => fun z71 x6_71 x5_71 => ((6 ≤ x6_71 → (wp_X9_waiting z71 (fun r10 s9 =>
((r10 = 100 → (wp_X9_come_J113 a1 a2 a3 K (wp_X9_come_L71 a1 a2 a3 s3 K fu71) s9)) ∧ (¬ (r10 = 100) → (((x5_71 ≤ (sI s9 1004 0) → (vp_in a1 6 ∧
((¬ (sI s9 1006 a1.toNatClampNeg) = 1 → (wp_X9_come_J149 a1 a2 a3 s3 K (wp_X9_come_L71 a1 a2 a3 s3 K fu71) (wp_X9_come_J113 a1 a2 a3 K (wp_X9_come_L71 a1 a2 a3 s3 K fu71)) s9 0)) ∧ ((sI s9 1006 a1.toNatClampNeg) = 1 → (wp_X9_look s9 a1 (fun r45 s44 =>
wp_X9_come_J149 a1 a2 a3 s3 K (wp_X9_come_L71 a1 a2 a3 s3 K fu71) (wp_X9_come_J113 a1 a2 a3 K (wp_X9_come_L71 a1 a2 a3 s3 K fu71)) s44 r45
)))))) ∧ (¬ (x5_71 ≤ (sI s9 1004 0)) → (wp_X9_come_J113 a1 a2 a3 K (wp_X9_come_L71 a1 a2 a3 s3 K fu71) s9))))))
))) ∧ (¬ (6 ≤ x6_71) → (wp_X9_bytesWaiting z71 x6_71 (fun r47 s46 =>
wp_X9_come_L71 a1 a2 a3 s3 K fu71 s46 (x6_71 + 1) (x5_71 + r47)
))))
def wp_X9_come_J26 (a1 : Int32) (a2 : Int32) (a3 : Int32) (K : Int32 → ST → Prop) (z26 : ST) (y0_26 : Int32) : Prop := wp_X9_refused z26 y0_26 (fun r4 s3 =>
((r4 = 0 → (∀ s5, s5 = upI s3 1002 0 ((sI s3 1002 0) + 1) →
vp_in ((10 * a1) + 0) 60 ∧
vp_in ((10 * a1) + 0) 60 ∧
∀ s8, s8 = upI s5 1029 ((10 * a1) + 0).toNatClampNeg ((sI s5 1029 ((10 * a1) + 0).toNatClampNeg) + 1) →
∃ n71, wp_X9_come_L71 a1 a2 a3 s3 K n71 s8 0 a2)) ∧ (¬ (r4 = 0) → (K 0 s3)))
)
def wp_X9_come_J25 (a1 : Int32) (a2 : Int32) (a3 : Int32) (K : Int32 → ST → Prop) (G26 : ST → Int32 → Prop) (z25 : ST) : Prop := G26 z25 1
def wp_X9_come (σ : ST) (a1 : Int32) (a2 : Int32) (a3 : Int32) (K : Int32 → ST → Prop) : Prop := wp_X9_isIn σ a1 0 5 (fun r2 s1 =>
((r2 = 0 → (wp_X9_come_J25 a1 a2 a3 K (wp_X9_come_J26 a1 a2 a3 K) s1)) ∧ (¬ (r2 = 0) → (wp_X9_isIn s1 a2 1 1500 (fun r49 s48 =>
((r49 = 0 → (wp_X9_come_J25 a1 a2 a3 K (wp_X9_come_J26 a1 a2 a3 K) s48)) ∧ (¬ (r49 = 0) → (wp_X9_come_J26 a1 a2 a3 K s48 0)))
))))
)
set_option maxRecDepth 20000 in
theorem iX9_come_9 : ∀ w ∈ wsX90, w ∈ wsX9_come := by decide +kernel
set_option maxHeartbeats 8000000 in
set_option maxRecDepth 100000 in
theorem c_X9_come (l : Launch) (dC : Nat → ClassId) (dI : Nat → Nat → Nat) (cA : Nat → ClassId) (ad : Nat → Nat → Nat) (σ : ST) (a1 : Int32) (a2 : Int32) (a3 : Int32) (sz : Nat) (K : Int32 → ST → Prop) (hwp : wp_X9_come σ a1 a2 a3 K) : Met l yX9_come wsX9_come ({ frames := 2, cells := 0, slots := 0, locals := 49 } : Room) (va_Pc [.ref (ad 9 0), .int a1, .int a2, .int a3] (preC dC dI cA (Wm cA ad σ) sz)) (va_Qi K (atC dC dI cA (Wm cA ad) (va_A (Wm cA ad σ) sz)) (va_A (Wm cA ad σ) sz)) 0 0 (va_A (Wm cA ad σ) sz) := by
  refine Met.ofW (cc := cX9_come) (maxL := 8) (ret := (some .int)) (by decide) rfl ?_
  intro p e s m args below meth c s₁ B hml hv
  obtain ⟨rfl, hsz, hP, hK, hD0⟩ := hv
  have hx := B.exec
  have hb := B.bytes
  have hr := B.returns
  have hts := atoms_spec (ws := wsX9_come) B.pre
  have hown : s.vm.findClass RX9 = some m.cls := findClass_of_methodNamed B.named
  have hlocks := B.notSynchronized
  subst hsz
  have hD := hD0.self (sz := s.heap.size)
  clear hD0
  generalize hAe : va_A (Wm cA ad σ) s.heap.size = A at hD ⊢
  have hA : ∀ q : Nat, s.heap.size ≤ q → A q := fun q h => by rw [← hAe]; exact Or.inr h
  have hS : va_S A s.heap s.heap [] := va_S.rf
  have hkc : 0 ≤ 0 := Nat.le_refl 0
  have hks : 0 ≤ 0 := Nat.le_refl 0
  have hl := lv_entry ([.ref (ad 9 0), .int a1, .int a2, .int a3]) (n := 8) (Nat.le_of_ble_eq_true rfl)
  rw [lg_entry_eq]
  generalize (lg_sl ([.ref (ad 9 0), .int a1, .int a2, .int a3]) ++ List.replicate (8 - (lg_sl ([.ref (ad 9 0), .int a1, .int a2, .int a3])).length) Slot.unset).toArray = ls at hl ⊢
  have hl : lv_has ls 8 [(0, .ref (ad 9 0)), (1, .int a1), (2, .int a2), (3, .int a3)] := hl
  unfold wp_X9_come at hwp
  generalize hHe : s.heap = H at hP ⊢
  have hS : va_S A s.heap H [] := by rw [← hHe]; exact va_S.rf
  clear hHe
  refine lv_aload_n hx hb dX9_come_0 rfl (lv_at hl 0 rfl) ?_
  refine lv_iload_n hx hb dX9_come_1 rfl (lv_at hl 1 rfl) ?_
  refine lv_iconst (v := 0) hx hb dX9_come_2 (by decide) ?_
  refine lv_iconst (v := 5) hx hb dX9_come_3 (by decide) ?_
  have hF := fA hD hS hA
  refine va_calli (va_runS (As := [.int a1, .int 0, .int 5]) (rest := [.ref (ad 9 0)]) ⟨hx, hb, hml, hown, hts⟩ (c_X9_isIn l dC dI cA ad σ a1 0 5 H.size _ hwp) (cwS 3 hts gX9_come_X9_isIn rfl rfl rfl (by decide +kernel) ⟨Nat.le_of_ble_eq_true rfl, Nat.le_of_ble_eq_true rfl⟩) ⟨fbC, fun U hU hW => ⟨rfl, by rw [hU], by rw [hU]; exact hP, va_K.moved hW.alike hK, hD.weaken (fun _ _ _ _ => trivial)⟩⟩ rfl rfl hl.1 rfl (lv_room (Nat.le_of_ble_eq_true rfl)) dX9_come_4 ⟨hkc, hks⟩) hS (fun q _ h => hF q h) hF (fun r2 s1 t H1 locs ht hvm hwp hB hz1 hk1 hS => ?_)
  obtain ⟨hP1, hK1, hD1⟩ := hB
  rw [ht] at hP1
  have hD2 := hD1.weaken (fun _ q _ h => hF q.1 h)
  clear hP hD
  have hP := hP1
  have hD := hD2
  clear hP1 hD1 hD2 hK1 hk1 hz1 hF
  generalize H1 = H at hP hS ⊢
  have J26 : ∀ (z26 : ST) (y0_26 : Int32), wp_X9_come_J26 a1 a2 a3 K z26 y0_26 → ∀ (H : Heap) (locs : List Loc) (ls : Array Slot), va_P (dC, dI) vwCl (Wm cA ad z26) H → va_D A (Wm cA ad z26) → va_S A s.heap H locs → lv_has ls 8 [(0, .ref (ad 9 0)), (1, .int a1), (2, .int a2), (3, .int a3)] → W p l e ({ frames := 2, cells := 0, slots := 0, locals := 49 } : Room) s m ([.ref (ad 9 0), .int a1, .int a2, .int a3] : List Value).toArray below meth c H locs 0 0 (MQ below (va_Qi K (atC dC dI cA (Wm cA ad) A) A) ([.ref (ad 9 0), .int a1, .int a2, .int a3] : List Value).toArray s 0 0 A) (F0 m 26 ls [.int y0_26, .ref (ad 9 0)]) := by
    intro z26 y0_26 hwp H locs ls hP hD hS hl
    have hF := fA hD hS hA
    refine va_calli (va_runV (As := [.int y0_26]) (rest := []) ⟨hx, hb, hml, hown, hts⟩ (c_X9_refused l dC dI cA ad z26 y0_26 H.size _ hwp) (cwV 1 hts gX9_come_X9_refused rfl rfl rfl (by decide +kernel) ⟨Nat.le_of_ble_eq_true rfl, Nat.le_of_ble_eq_true rfl⟩) ⟨fbC, va_recv hK hP (ci := 9) (q0 := 0) rfl atModel, fun U hU hW => ⟨rfl, by rw [hU], by rw [hU]; exact hP, va_K.moved hW.alike hK, hD.weaken (fun _ _ _ _ => trivial)⟩⟩ rfl rfl hl.1 rfl (lv_room (Nat.le_of_ble_eq_true rfl)) dX9_come_26 ⟨hkc, hks⟩) hS (fun q _ h => hF q h) hF (fun r4 s3 t H1 locs ht hvm hwp hB hz1 hk1 hS => ?_)
    obtain ⟨hP1, hK1, hD1⟩ := hB
    rw [ht] at hP1
    have hD2 := hD1.weaken (fun _ q _ h => hF q.1 h)
    clear hP hD
    have hP := hP1
    have hD := hD2
    clear hP1 hD1 hD2 hK1 hk1 hz1 hF
    generalize H1 = H at hP hS ⊢
    refine lv_if_eq (tgt := 34) hx hb dX9_come_29 (by decide) (fun c_29 => ?_) (fun c_29 => ?_)
    · replace hwp := hwp.1 c_29
      refine lv_aload_n hx hb dX9_come_34 rfl (lv_at hl 0 rfl) ?_
      refine va_get (D := (dC, dI)) (ci := 9) (v := .int (sI s3 1002 0)) (C := RX9) (T := TX9) (N := 43) hx hb hts iX9_come_9 hown hK hP 0 atModel rfl 2 (by decide) (hts (.fieldLink RX9 144 "LinkQueuesModel" "packets" "I") (by decide +kernel)) (fun _ h9 => h9) rfl dX9_come_35 ?_
      refine lv_istore (lv' := [(4, .int (sI s3 1002 0)), (0, .ref (ad 9 0)), (1, .int a1), (2, .int a2), (3, .int a3)]) hx hb dX9_come_38 hl (by decide) rfl (fun ls hl => ?_)
      refine lv_aload_n hx hb dX9_come_40 rfl (lv_at hl 1 rfl) ?_
      refine lv_dup hx hb dX9_come_41 rfl ?_
      refine va_get (D := (dC, dI)) (ci := 9) (v := .int (sI s3 1002 0)) (C := RX9) (T := TX9) (N := 43) hx hb hts iX9_come_9 hown hK hP 0 atModel rfl 2 (by decide) (hts (.fieldLink RX9 144 "LinkQueuesModel" "packets" "I") (by decide +kernel)) (fun _ h9 => h9) rfl dX9_come_42 ?_
      refine lv_iconst (v := 1) hx hb dX9_come_45 (by decide) ?_
      refine lv_iadd hx hb dX9_come_46 ?_
      obtain ⟨s5, e_s5⟩ : ∃ z, z = upI s3 1002 0 ((sI s3 1002 0) + 1) := ⟨_, rfl⟩
      refine st_put (D := (dC, dI)) (ci := 9) (v := .int ((sI s3 1002 0) + 1)) (ty := .int) (C := RX9) (T := TX9) (N := 43) (ws' := Wm cA ad s5) hx hb hts iX9_come_9 tyX9 tyX9_ok nmX9 hown hK hP hD hS 0 atModel rfl 2 (by decide) (hts (.fieldLink RX9 144 "LinkQueuesModel" "packets" "I") (by decide +kernel)) (fun _ h9 => h9) rfl (by decide +kernel) rfl rfl (Nat.le_of_ble_eq_true rfl) dX9_come_47 (by rw [e_s5]; exact stM_2 ((sI s3 1002 0) + 1)) (fun H locs hP hD hS => ?_)
      replace hwp := hwp s5 e_s5
      refine lv_aload_n hx hb dX9_come_50 rfl (lv_at hl 1 rfl) ?_
      refine va_get (D := (dC, dI)) (ci := 9) (v := .ref (ad 129 0)) (C := RX9) (T := TX9) (N := 43) hx hb hts iX9_come_9 hown hK hP 0 atModel rfl 29 (by decide) (hts (.fieldLink RX9 92 "LinkQueuesModel" "counts" "[I") (by decide +kernel)) (fun _ h9 => h9) rfl dX9_come_51 ?_
      refine lv_bipush (v := 10) hx hb dX9_come_54 (by decide) ?_
      refine lv_iload_n hx hb dX9_come_56 rfl (lv_at hl 2 rfl) ?_
      refine lv_imul hx hb dX9_come_57 ?_
      refine lv_iconst (v := 0) hx hb dX9_come_58 (by decide) ?_
      refine lv_iadd hx hb dX9_come_59 ?_
      refine lv_dup2_11 hx hb dX9_come_60 rfl rfl ?_
      obtain ⟨hi_6, hwp⟩ := hwp
      refine va_iald (D := (dC, dI)) hx hb hK hP 24 1 atm29 rfl hi_6 dX9_come_61 ?_
      refine lv_iconst (v := 1) hx hb dX9_come_62 (by decide) ?_
      refine lv_iadd hx hb dX9_come_63 ?_
      obtain ⟨hi_7, hwp⟩ := hwp
      obtain ⟨s8, e_s8⟩ : ∃ z, z = upI s5 1029 ((10 * a1) + 0).toNatClampNeg ((sI s5 1029 ((10 * a1) + 0).toNatClampNeg) + 1) := ⟨_, rfl⟩
      refine va_iast (D := (dC, dI)) hx hb hK hP hD hS 24 1 atm29 rfl hi_7 dX9_come_64 (fun H locs hP hD hS => ?_)
      rw [stm29, ← e_s8] at hP hD
      replace hwp := hwp s8 e_s8
      refine lv_iload_n hx hb dX9_come_65 rfl (lv_at hl 3 rfl) ?_
      refine lv_istore (lv' := [(5, .int a2), (4, .int (sI s3 1002 0)), (0, .ref (ad 9 0)), (1, .int a1), (2, .int a2), (3, .int a3)]) hx hb dX9_come_66 hl (by decide) rfl (fun ls hl => ?_)
      refine lv_iconst (v := 0) hx hb dX9_come_68 (by decide) ?_
      refine lv_istore (lv' := [(6, .int 0), (5, .int a2), (4, .int (sI s3 1002 0)), (0, .ref (ad 9 0)), (1, .int a1), (2, .int a2), (3, .int a3)]) hx hb dX9_come_69 hl (by decide) rfl (fun ls hl => ?_)
      obtain ⟨n71, hwp⟩ := hwp
      have L71 : ∀ (fu71 : Nat) (z71 : ST) (x6_71 : Int32) (x5_71 : Int32), wp_X9_come_L71 a1 a2 a3 s3 K fu71 z71 x6_71 x5_71 → ∀ (H : Heap) (locs : List Loc) (ls : Array Slot), va_P (dC, dI) vwCl (Wm cA ad z71) H → va_D A (Wm cA ad z71) → va_S A s.heap H locs → lv_has ls 8 [(6, .int x6_71), (5, .int x5_71), (4, .int (sI s3 1002 0)), (0, .ref (ad 9 0)), (1, .int a1), (2, .int a2), (3, .int a3)] → W p l e ({ frames := 2, cells := 0, slots := 0, locals := 49 } : Room) s m ([.ref (ad 9 0), .int a1, .int a2, .int a3] : List Value).toArray below meth c H locs 0 0 (MQ below (va_Qi K (atC dC dI cA (Wm cA ad) A) A) ([.ref (ad 9 0), .int a1, .int a2, .int a3] : List Value).toArray s 0 0 A) (F0 m 71 ls []) := by
        intro fu71
        induction fu71 with
        | zero => intro z71 x6_71 x5_71 h; exact h.elim
        | succ fu71 ih71 =>
          intro z71 x6_71 x5_71 hwp H locs ls hP hD hS hl
          refine lv_iload hx hb dX9_come_71 (lv_at hl 0 rfl) ?_
          refine lv_bipush (v := 6) hx hb dX9_come_73 (by decide) ?_
          refine lv_icmp_ge (tgt := 95) hx hb dX9_come_75 (by decide) (fun c_75 => ?_) (fun c_75 => ?_)
          · replace hwp := hwp.1 c_75
            refine lv_aload_n hx hb dX9_come_95 rfl (lv_at hl 3 rfl) ?_
            have hF := fA hD hS hA
            refine va_calli (va_runV (As := []) (rest := []) ⟨hx, hb, hml, hown, hts⟩ (c_X9_waiting l dC dI cA ad z71 H.size _ hwp) (cwV 0 hts gX9_come_X9_waiting rfl rfl rfl (by decide +kernel) ⟨Nat.le_of_ble_eq_true rfl, Nat.le_of_ble_eq_true rfl⟩) ⟨fbC, va_recv hK hP (ci := 9) (q0 := 0) rfl atModel, fun U hU hW => ⟨rfl, by rw [hU], by rw [hU]; exact hP, va_K.moved hW.alike hK, hD.weaken (fun _ _ _ _ => trivial)⟩⟩ rfl rfl hl.1 rfl (lv_room (Nat.le_of_ble_eq_true rfl)) dX9_come_96 ⟨hkc, hks⟩) hS (fun q _ h => hF q h) hF (fun r10 s9 t H1 locs ht hvm hwp hB hz1 hk1 hS => ?_)
            obtain ⟨hP1, hK1, hD1⟩ := hB
            rw [ht] at hP1
            have hD2 := hD1.weaken (fun _ q _ h => hF q.1 h)
            clear hP hD
            have hP := hP1
            have hD := hD2
            clear hP1 hD1 hD2 hK1 hk1 hz1 hF
            generalize H1 = H at hP hS ⊢
            refine lv_bipush (v := 100) hx hb dX9_come_99 (by decide) ?_
            have J113 : ∀ (z113 : ST), wp_X9_come_J113 a1 a2 a3 K (wp_X9_come_L71 a1 a2 a3 s3 K fu71) z113 → ∀ (H : Heap) (locs : List Loc) (ls : Array Slot), va_P (dC, dI) vwCl (Wm cA ad z113) H → va_D A (Wm cA ad z113) → va_S A s.heap H locs → lv_has ls 8 [(0, .ref (ad 9 0)), (1, .int a1)] → W p l e ({ frames := 2, cells := 0, slots := 0, locals := 49 } : Room) s m ([.ref (ad 9 0), .int a1, .int a2, .int a3] : List Value).toArray below meth c H locs 0 0 (MQ below (va_Qi K (atC dC dI cA (Wm cA ad) A) A) ([.ref (ad 9 0), .int a1, .int a2, .int a3] : List Value).toArray s 0 0 A) (F0 m 113 ls []) := by
              intro z113 hwp H locs ls hP hD hS hl
              refine lv_aload_n hx hb dX9_come_113 rfl (lv_at hl 0 rfl) ?_
              refine va_get (D := (dC, dI)) (ci := 9) (v := .ref (ad 129 0)) (C := RX9) (T := TX9) (N := 43) hx hb hts iX9_come_9 hown hK hP 0 atModel rfl 29 (by decide) (hts (.fieldLink RX9 92 "LinkQueuesModel" "counts" "[I") (by decide +kernel)) (fun _ h9 => h9) rfl dX9_come_114 ?_
              refine lv_bipush (v := 10) hx hb dX9_come_117 (by decide) ?_
              refine lv_iload_n hx hb dX9_come_119 rfl (lv_at hl 1 rfl) ?_
              refine lv_imul hx hb dX9_come_120 ?_
              refine lv_iconst (v := 2) hx hb dX9_come_121 (by decide) ?_
              refine lv_iadd hx hb dX9_come_122 ?_
              refine lv_dup2_11 hx hb dX9_come_123 rfl rfl ?_
              obtain ⟨hi_11, hwp⟩ := hwp
              refine va_iald (D := (dC, dI)) hx hb hK hP 24 1 atm29 rfl hi_11 dX9_come_124 ?_
              refine lv_iconst (v := 1) hx hb dX9_come_125 (by decide) ?_
              refine lv_iadd hx hb dX9_come_126 ?_
              obtain ⟨hi_12, hwp⟩ := hwp
              obtain ⟨s13, e_s13⟩ : ∃ z, z = upI z113 1029 ((10 * a1) + 2).toNatClampNeg ((sI z113 1029 ((10 * a1) + 2).toNatClampNeg) + 1) := ⟨_, rfl⟩
              refine va_iast (D := (dC, dI)) hx hb hK hP hD hS 24 1 atm29 rfl hi_12 dX9_come_127 (fun H locs hP hD hS => ?_)
              rw [stm29, ← e_s13] at hP hD
              replace hwp := hwp s13 e_s13
              refine lv_iconst (v := (-1)) hx hb dX9_come_128 (by decide) ?_
              exact W.iret (v := (-1)) hx hb hr (fun t ht hW => ⟨⟨(-1), s13, rfl, hwp, by rw [ht]; exact hP, va_K.moved hW.alike hK, hD⟩, hS.F ht⟩) hS.2.2 dX9_come_129
            refine lv_icmp_eq (tgt := 113) hx hb dX9_come_101 (by decide) (fun c_101 => ?_) (fun c_101 => ?_)
            · replace hwp := hwp.1 c_101
              exact J113 s9 hwp _ _ _ hP hD hS (lv_sub hl [3, 4] rfl)
            · replace hwp := hwp.2 c_101
              refine lv_iload hx hb dX9_come_104 (lv_at hl 1 rfl) ?_
              refine lv_aload_n hx hb dX9_come_106 rfl (lv_at hl 3 rfl) ?_
              refine va_get (D := (dC, dI)) (ci := 9) (v := .int (sI s9 1004 0)) (C := RX9) (T := TX9) (N := 43) hx hb hts iX9_come_9 hown hK hP 0 atModel rfl 4 (by decide) (hts (.fieldLink RX9 16 "LinkQueuesModel" "limit" "I") (by decide +kernel)) (fun _ h9 => h9) rfl dX9_come_107 ?_
              refine lv_icmp_le (tgt := 130) hx hb dX9_come_110 (by decide) (fun c_110 => ?_) (fun c_110 => ?_)
              · replace hwp := hwp.1 c_110
                refine lv_aload_n hx hb dX9_come_130 rfl (lv_at hl 3 rfl) ?_
                refine va_get (D := (dC, dI)) (ci := 9) (v := .ref (ad 106 0)) (C := RX9) (T := TX9) (N := 43) hx hb hts iX9_come_9 hown hK hP 0 atModel rfl 6 (by decide) (hts (.fieldLink RX9 20 "LinkQueuesModel" "kinds" "[I") (by decide +kernel)) (fun _ h9 => h9) rfl dX9_come_131 ?_
                refine lv_iload_n hx hb dX9_come_134 rfl (lv_at hl 4 rfl) ?_
                obtain ⟨hi_14, hwp⟩ := hwp
                refine va_iald (D := (dC, dI)) hx hb hK hP 1 1 atm6 rfl hi_14 dX9_come_135 ?_
                refine lv_iconst (v := 1) hx hb dX9_come_136 (by decide) ?_
                have J149 : ∀ (z149 : ST) (y0_149 : Int32), wp_X9_come_J149 a1 a2 a3 s3 K (wp_X9_come_L71 a1 a2 a3 s3 K fu71) (wp_X9_come_J113 a1 a2 a3 K (wp_X9_come_L71 a1 a2 a3 s3 K fu71)) z149 y0_149 → ∀ (H : Heap) (locs : List Loc) (ls : Array Slot), va_P (dC, dI) vwCl (Wm cA ad z149) H → va_D A (Wm cA ad z149) → va_S A s.heap H locs → lv_has ls 8 [(4, .int (sI s3 1002 0)), (0, .ref (ad 9 0)), (1, .int a1), (2, .int a2), (3, .int a3)] → W p l e ({ frames := 2, cells := 0, slots := 0, locals := 49 } : Room) s m ([.ref (ad 9 0), .int a1, .int a2, .int a3] : List Value).toArray below meth c H locs 0 0 (MQ below (va_Qi K (atC dC dI cA (Wm cA ad) A) A) ([.ref (ad 9 0), .int a1, .int a2, .int a3] : List Value).toArray s 0 0 A) (F0 m 149 ls [.int y0_149]) := by
                  intro z149 y0_149 hwp H locs ls hP hD hS hl
                  refine lv_istore (lv' := [(6, .int y0_149), (4, .int (sI s3 1002 0)), (0, .ref (ad 9 0)), (1, .int a1), (2, .int a2), (3, .int a3)]) hx hb dX9_come_149 hl (by decide) rfl (fun ls hl => ?_)
                  refine lv_iload hx hb dX9_come_151 (lv_at hl 0 rfl) ?_
                  refine lv_iconst (v := 1) hx hb dX9_come_153 (by decide) ?_
                  have J167 : ∀ (z167 : ST), wp_X9_come_J167 a1 a2 a3 K (wp_X9_come_L71 a1 a2 a3 s3 K fu71) (wp_X9_come_J113 a1 a2 a3 K (wp_X9_come_L71 a1 a2 a3 s3 K fu71)) z167 → ∀ (H : Heap) (locs : List Loc) (ls : Array Slot), va_P (dC, dI) vwCl (Wm cA ad z167) H → va_D A (Wm cA ad z167) → va_S A s.heap H locs → lv_has ls 8 [(0, .ref (ad 9 0)), (1, .int a1)] → W p l e ({ frames := 2, cells := 0, slots := 0, locals := 49 } : Room) s m ([.ref (ad 9 0), .int a1, .int a2, .int a3] : List Value).toArray below meth c H locs 0 0 (MQ below (va_Qi K (atC dC dI cA (Wm cA ad) A) A) ([.ref (ad 9 0), .int a1, .int a2, .int a3] : List Value).toArray s 0 0 A) (F0 m 167 ls []) := by
                    intro z167 hwp H locs ls hP hD hS hl
                    refine lv_aload_n hx hb dX9_come_167 rfl (lv_at hl 0 rfl) ?_
                    refine va_get (D := (dC, dI)) (ci := 9) (v := .ref (ad 129 0)) (C := RX9) (T := TX9) (N := 43) hx hb hts iX9_come_9 hown hK hP 0 atModel rfl 29 (by decide) (hts (.fieldLink RX9 92 "LinkQueuesModel" "counts" "[I") (by decide +kernel)) (fun _ h9 => h9) rfl dX9_come_168 ?_
                    refine lv_bipush (v := 10) hx hb dX9_come_171 (by decide) ?_
                    refine lv_iload_n hx hb dX9_come_173 rfl (lv_at hl 1 rfl) ?_
                    refine lv_imul hx hb dX9_come_174 ?_
                    refine lv_iconst (v := 3) hx hb dX9_come_175 (by decide) ?_
                    refine lv_iadd hx hb dX9_come_176 ?_
                    refine lv_dup2_11 hx hb dX9_come_177 rfl rfl ?_
                    obtain ⟨hi_15, hwp⟩ := hwp
                    refine va_iald (D := (dC, dI)) hx hb hK hP 24 1 atm29 rfl hi_15 dX9_come_178 ?_
                    refine lv_iconst (v := 1) hx hb dX9_come_179 (by decide) ?_
                    refine lv_iadd hx hb dX9_come_180 ?_
                    obtain ⟨hi_16, hwp⟩ := hwp
                    obtain ⟨s17, e_s17⟩ : ∃ z, z = upI z167 1029 ((10 * a1) + 3).toNatClampNeg ((sI z167 1029 ((10 * a1) + 3).toNatClampNeg) + 1) := ⟨_, rfl⟩
                    refine va_iast (D := (dC, dI)) hx hb hK hP hD hS 24 1 atm29 rfl hi_16 dX9_come_181 (fun H locs hP hD hS => ?_)
                    rw [stm29, ← e_s17] at hP hD
                    replace hwp := hwp s17 e_s17
                    refine lv_iconst (v := (-1)) hx hb dX9_come_182 (by decide) ?_
                    exact W.iret (v := (-1)) hx hb hr (fun t ht hW => ⟨⟨(-1), s17, rfl, hwp, by rw [ht]; exact hP, va_K.moved hW.alike hK, hD⟩, hS.F ht⟩) hS.2.2 dX9_come_183
                  refine lv_icmp_eq (tgt := 167) hx hb dX9_come_154 (by decide) (fun c_154 => ?_) (fun c_154 => ?_)
                  · replace hwp := hwp.1 c_154
                    exact J167 z149 hwp _ _ _ hP hD hS (lv_sub hl [2, 3] rfl)
                  · replace hwp := hwp.2 c_154
                    refine lv_iload hx hb dX9_come_157 (lv_at hl 0 rfl) ?_
                    refine lv_iconst (v := 2) hx hb dX9_come_159 (by decide) ?_
                    have J184 : ∀ (z184 : ST), wp_X9_come_J184 a1 a2 a3 y0_149 s3 K (wp_X9_come_L71 a1 a2 a3 s3 K fu71) (wp_X9_come_J113 a1 a2 a3 K (wp_X9_come_L71 a1 a2 a3 s3 K fu71)) (wp_X9_come_J167 a1 a2 a3 K (wp_X9_come_L71 a1 a2 a3 s3 K fu71) (wp_X9_come_J113 a1 a2 a3 K (wp_X9_come_L71 a1 a2 a3 s3 K fu71))) z184 → ∀ (H : Heap) (locs : List Loc) (ls : Array Slot), va_P (dC, dI) vwCl (Wm cA ad z184) H → va_D A (Wm cA ad z184) → va_S A s.heap H locs → lv_has ls 8 [(6, .int y0_149), (4, .int (sI s3 1002 0)), (0, .ref (ad 9 0)), (1, .int a1), (2, .int a2), (3, .int a3)] → W p l e ({ frames := 2, cells := 0, slots := 0, locals := 49 } : Room) s m ([.ref (ad 9 0), .int a1, .int a2, .int a3] : List Value).toArray below meth c H locs 0 0 (MQ below (va_Qi K (atC dC dI cA (Wm cA ad) A) A) ([.ref (ad 9 0), .int a1, .int a2, .int a3] : List Value).toArray s 0 0 A) (F0 m 184 ls []) := by
                      intro z184 hwp H locs ls hP hD hS hl
                      refine lv_iload hx hb dX9_come_184 (lv_at hl 0 rfl) ?_
                      refine lv_iconst (v := 2) hx hb dX9_come_186 (by decide) ?_
                      have J205 : ∀ (z205 : ST), wp_X9_come_J205 a1 a2 a3 y0_149 s3 K (wp_X9_come_L71 a1 a2 a3 s3 K fu71) (wp_X9_come_J113 a1 a2 a3 K (wp_X9_come_L71 a1 a2 a3 s3 K fu71)) (wp_X9_come_J167 a1 a2 a3 K (wp_X9_come_L71 a1 a2 a3 s3 K fu71) (wp_X9_come_J113 a1 a2 a3 K (wp_X9_come_L71 a1 a2 a3 s3 K fu71))) z205 → ∀ (H : Heap) (locs : List Loc) (ls : Array Slot), va_P (dC, dI) vwCl (Wm cA ad z205) H → va_D A (Wm cA ad z205) → va_S A s.heap H locs → lv_has ls 8 [(6, .int y0_149), (4, .int (sI s3 1002 0)), (0, .ref (ad 9 0)), (1, .int a1), (2, .int a2), (3, .int a3)] → W p l e ({ frames := 2, cells := 0, slots := 0, locals := 49 } : Room) s m ([.ref (ad 9 0), .int a1, .int a2, .int a3] : List Value).toArray below meth c H locs 0 0 (MQ below (va_Qi K (atC dC dI cA (Wm cA ad) A) A) ([.ref (ad 9 0), .int a1, .int a2, .int a3] : List Value).toArray s 0 0 A) (F0 m 205 ls []) := by
                        intro z205 hwp H locs ls hP hD hS hl
                        refine lv_aload_n hx hb dX9_come_205 rfl (lv_at hl 2 rfl) ?_
                        refine va_get (D := (dC, dI)) (ci := 9) (v := .ref (ad 123 0)) (C := RX9) (T := TX9) (N := 43) hx hb hts iX9_come_9 hown hK hP 0 atModel rfl 23 (by decide) (hts (.fieldLink RX9 74 "LinkQueuesModel" "sizes" "[I") (by decide +kernel)) (fun _ h9 => h9) rfl dX9_come_206 ?_
                        refine lv_iload_n hx hb dX9_come_209 rfl (lv_at hl 3 rfl) ?_
                        obtain ⟨hi_18, hwp⟩ := hwp
                        refine va_iald (D := (dC, dI)) hx hb hK hP 18 1 atm23 rfl hi_18 dX9_come_210 ?_
                        have J241 : ∀ (z241 : ST), wp_X9_come_J241 a1 a2 a3 y0_149 s3 K (wp_X9_come_L71 a1 a2 a3 s3 K fu71) (wp_X9_come_J113 a1 a2 a3 K (wp_X9_come_L71 a1 a2 a3 s3 K fu71)) (wp_X9_come_J167 a1 a2 a3 K (wp_X9_come_L71 a1 a2 a3 s3 K fu71) (wp_X9_come_J113 a1 a2 a3 K (wp_X9_come_L71 a1 a2 a3 s3 K fu71))) z241 → ∀ (H : Heap) (locs : List Loc) (ls : Array Slot), va_P (dC, dI) vwCl (Wm cA ad z241) H → va_D A (Wm cA ad z241) → va_S A s.heap H locs → lv_has ls 8 [(6, .int y0_149), (4, .int (sI s3 1002 0)), (0, .ref (ad 9 0)), (1, .int a1), (2, .int a2), (3, .int a3)] → W p l e ({ frames := 2, cells := 0, slots := 0, locals := 49 } : Room) s m ([.ref (ad 9 0), .int a1, .int a2, .int a3] : List Value).toArray below meth c H locs 0 0 (MQ below (va_Qi K (atC dC dI cA (Wm cA ad) A) A) ([.ref (ad 9 0), .int a1, .int a2, .int a3] : List Value).toArray s 0 0 A) (F0 m 241 ls []) := by
                          intro z241 hwp H locs ls hP hD hS hl
                          refine lv_bipush (v := 100) hx hb dX9_come_241 (by decide) ?_
                          refine lv_iload_n hx hb dX9_come_243 rfl (lv_at hl 3 rfl) ?_
                          refine lv_imul hx hb dX9_come_244 ?_
                          refine lv_aload_n hx hb dX9_come_245 rfl (lv_at hl 2 rfl) ?_
                          refine va_get (D := (dC, dI)) (ci := 9) (v := .ref (ad 123 0)) (C := RX9) (T := TX9) (N := 43) hx hb hts iX9_come_9 hown hK hP 0 atModel rfl 23 (by decide) (hts (.fieldLink RX9 74 "LinkQueuesModel" "sizes" "[I") (by decide +kernel)) (fun _ h9 => h9) rfl dX9_come_246 ?_
                          refine lv_iload_n hx hb dX9_come_249 rfl (lv_at hl 3 rfl) ?_
                          obtain ⟨hi_19, hwp⟩ := hwp
                          refine va_iald (D := (dC, dI)) hx hb hK hP 18 1 atm23 rfl hi_19 dX9_come_250 ?_
                          refine lv_iadd hx hb dX9_come_251 ?_
                          refine lv_istore (lv' := [(7, .int ((100 * a1) + (sI z241 1023 a1.toNatClampNeg))), (6, .int y0_149), (4, .int (sI s3 1002 0)), (0, .ref (ad 9 0)), (1, .int a1), (2, .int a2), (3, .int a3)]) hx hb dX9_come_252 hl (by decide) rfl (fun ls hl => ?_)
                          refine lv_aload_n hx hb dX9_come_254 rfl (lv_at hl 3 rfl) ?_
                          refine va_get (D := (dC, dI)) (ci := 9) (v := .ref (ad 123 0)) (C := RX9) (T := TX9) (N := 43) hx hb hts iX9_come_9 hown hK hP 0 atModel rfl 23 (by decide) (hts (.fieldLink RX9 74 "LinkQueuesModel" "sizes" "[I") (by decide +kernel)) (fun _ h9 => h9) rfl dX9_come_255 ?_
                          refine lv_iload_n hx hb dX9_come_258 rfl (lv_at hl 4 rfl) ?_
                          refine lv_dup2_11 hx hb dX9_come_259 rfl rfl ?_
                          obtain ⟨hi_20, hwp⟩ := hwp
                          refine va_iald (D := (dC, dI)) hx hb hK hP 18 1 atm23 rfl hi_20 dX9_come_260 ?_
                          refine lv_iconst (v := 1) hx hb dX9_come_261 (by decide) ?_
                          refine lv_iadd hx hb dX9_come_262 ?_
                          obtain ⟨hi_21, hwp⟩ := hwp
                          obtain ⟨s22, e_s22⟩ : ∃ z, z = upI z241 1023 a1.toNatClampNeg ((sI z241 1023 a1.toNatClampNeg) + 1) := ⟨_, rfl⟩
                          refine va_iast (D := (dC, dI)) hx hb hK hP hD hS 18 1 atm23 rfl hi_21 dX9_come_263 (fun H locs hP hD hS => ?_)
                          rw [stm23, ← e_s22] at hP hD
                          replace hwp := hwp s22 e_s22
                          refine lv_aload_n hx hb dX9_come_264 rfl (lv_at hl 3 rfl) ?_
                          refine va_get (D := (dC, dI)) (ci := 9) (v := .ref (ad 124 0)) (C := RX9) (T := TX9) (N := 43) hx hb hts iX9_come_9 hown hK hP 0 atModel rfl 24 (by decide) (hts (.fieldLink RX9 77 "LinkQueuesModel" "numbers" "[I") (by decide +kernel)) (fun _ h9 => h9) rfl dX9_come_265 ?_
                          refine lv_iload hx hb dX9_come_268 (lv_at hl 0 rfl) ?_
                          refine lv_iload hx hb dX9_come_270 (lv_at hl 2 rfl) ?_
                          obtain ⟨hi_23, hwp⟩ := hwp
                          obtain ⟨s24, e_s24⟩ : ∃ z, z = upI s22 1024 ((100 * a1) + (sI z241 1023 a1.toNatClampNeg)).toNatClampNeg (sI s3 1002 0) := ⟨_, rfl⟩
                          refine va_iast (D := (dC, dI)) hx hb hK hP hD hS 19 1 atm24 rfl hi_23 dX9_come_272 (fun H locs hP hD hS => ?_)
                          rw [stm24, ← e_s24] at hP hD
                          replace hwp := hwp s24 e_s24
                          refine lv_aload_n hx hb dX9_come_273 rfl (lv_at hl 3 rfl) ?_
                          refine va_get (D := (dC, dI)) (ci := 9) (v := .ref (ad 125 0)) (C := RX9) (T := TX9) (N := 43) hx hb hts iX9_come_9 hown hK hP 0 atModel rfl 25 (by decide) (hts (.fieldLink RX9 80 "LinkQueuesModel" "bytesOf" "[I") (by decide +kernel)) (fun _ h9 => h9) rfl dX9_come_274 ?_
                          refine lv_iload hx hb dX9_come_277 (lv_at hl 0 rfl) ?_
                          refine lv_iload_n hx hb dX9_come_279 rfl (lv_at hl 5 rfl) ?_
                          obtain ⟨hi_25, hwp⟩ := hwp
                          obtain ⟨s26, e_s26⟩ : ∃ z, z = upI s24 1025 ((100 * a1) + (sI z241 1023 a1.toNatClampNeg)).toNatClampNeg a2 := ⟨_, rfl⟩
                          refine va_iast (D := (dC, dI)) hx hb hK hP hD hS 20 1 atm25 rfl hi_25 dX9_come_280 (fun H locs hP hD hS => ?_)
                          rw [stm25, ← e_s26] at hP hD
                          replace hwp := hwp s26 e_s26
                          refine lv_aload_n hx hb dX9_come_281 rfl (lv_at hl 3 rfl) ?_
                          refine va_get (D := (dC, dI)) (ci := 9) (v := .ref (ad 126 0)) (C := RX9) (T := TX9) (N := 43) hx hb hts iX9_come_9 hown hK hP 0 atModel rfl 26 (by decide) (hts (.fieldLink RX9 83 "LinkQueuesModel" "times" "[I") (by decide +kernel)) (fun _ h9 => h9) rfl dX9_come_282 ?_
                          refine lv_iload hx hb dX9_come_285 (lv_at hl 0 rfl) ?_
                          refine lv_aload_n hx hb dX9_come_287 rfl (lv_at hl 3 rfl) ?_
                          refine va_get (D := (dC, dI)) (ci := 9) (v := .int (sI s26 1001 0)) (C := RX9) (T := TX9) (N := 43) hx hb hts iX9_come_9 hown hK hP 0 atModel rfl 1 (by decide) (hts (.fieldLink RX9 126 "LinkQueuesModel" "now" "I") (by decide +kernel)) (fun _ h9 => h9) rfl dX9_come_288 ?_
                          obtain ⟨hi_27, hwp⟩ := hwp
                          obtain ⟨s28, e_s28⟩ : ∃ z, z = upI s26 1026 ((100 * a1) + (sI z241 1023 a1.toNatClampNeg)).toNatClampNeg (sI s26 1001 0) := ⟨_, rfl⟩
                          refine va_iast (D := (dC, dI)) hx hb hK hP hD hS 21 1 atm26 rfl hi_27 dX9_come_291 (fun H locs hP hD hS => ?_)
                          rw [stm26, ← e_s28] at hP hD
                          replace hwp := hwp s28 e_s28
                          refine lv_aload_n hx hb dX9_come_292 rfl (lv_at hl 3 rfl) ?_
                          refine va_get (D := (dC, dI)) (ci := 9) (v := .ref (ad 127 0)) (C := RX9) (T := TX9) (N := 43) hx hb hts iX9_come_9 hown hK hP 0 atModel rfl 27 (by decide) (hts (.fieldLink RX9 86 "LinkQueuesModel" "markable" "[Z") (by decide +kernel)) (fun _ h9 => h9) rfl dX9_come_293 ?_
                          refine lv_iload hx hb dX9_come_296 (lv_at hl 0 rfl) ?_
                          refine lv_iload_n hx hb dX9_come_298 rfl (lv_at hl 6 rfl) ?_
                          obtain ⟨hi_29, hwp⟩ := hwp
                          obtain ⟨s30, e_s30⟩ : ∃ z, z = upI s28 1027 ((100 * a1) + (sI z241 1023 a1.toNatClampNeg)).toNatClampNeg a3 := ⟨_, rfl⟩
                          obtain ⟨hB_31, hwp⟩ := hwp
                          refine va_zast (D := (dC, dI)) hx hb hK hP hD hS 22 2 atm27 rfl hi_29 dX9_come_299 (fun H locs hP hD hS => ?_)
                          rw [isB_vp hB_31] at hP hD
                          rw [stm27, ← e_s30] at hP hD
                          replace hwp := hwp s30 e_s30
                          refine lv_aload_n hx hb dX9_come_300 rfl (lv_at hl 3 rfl) ?_
                          refine va_get (D := (dC, dI)) (ci := 9) (v := .ref (ad 128 0)) (C := RX9) (T := TX9) (N := 43) hx hb hts iX9_come_9 hown hK hP 0 atModel rfl 28 (by decide) (hts (.fieldLink RX9 89 "LinkQueuesModel" "marked" "[Z") (by decide +kernel)) (fun _ h9 => h9) rfl dX9_come_301 ?_
                          refine lv_iload hx hb dX9_come_304 (lv_at hl 0 rfl) ?_
                          refine lv_iload hx hb dX9_come_306 (lv_at hl 1 rfl) ?_
                          refine lv_iconst (v := 2) hx hb dX9_come_308 (by decide) ?_
                          refine lv_icmp_ne (tgt := 316) hx hb dX9_come_309 (by decide) (fun c_309 => ?_) (fun c_309 => ?_)
                          · replace hwp := hwp.1 c_309
                            refine lv_iconst (v := 0) hx hb dX9_come_316 (by decide) ?_
                            obtain ⟨hi_32, hwp⟩ := hwp
                            obtain ⟨s33, e_s33⟩ : ∃ z, z = upI s30 1028 ((100 * a1) + (sI z241 1023 a1.toNatClampNeg)).toNatClampNeg 0 := ⟨_, rfl⟩
                            refine va_zast (D := (dC, dI)) hx hb hK hP hD hS 23 2 atm28 rfl hi_32 dX9_come_317 (fun H locs hP hD hS => ?_)
                            rw [isB_vp isB0] at hP hD
                            rw [stm28, ← e_s33] at hP hD
                            replace hwp := hwp s33 e_s33
                            refine lv_iload hx hb dX9_come_318 (lv_at hl 2 rfl) ?_
                            exact W.iret (v := (sI s3 1002 0)) hx hb hr (fun t ht hW => ⟨⟨(sI s3 1002 0), s33, rfl, hwp, by rw [ht]; exact hP, va_K.moved hW.alike hK, hD⟩, hS.F ht⟩) hS.2.2 dX9_come_320
                          · replace hwp := hwp.2 c_309
                            refine lv_iconst (v := 1) hx hb dX9_come_312 (by decide) ?_
                            refine lv_goto (tgt := 317) hx hb dX9_come_313 (by decide) ?_
                            obtain ⟨hi_34, hwp⟩ := hwp
                            obtain ⟨s35, e_s35⟩ : ∃ z, z = upI s30 1028 ((100 * a1) + (sI z241 1023 a1.toNatClampNeg)).toNatClampNeg 1 := ⟨_, rfl⟩
                            refine va_zast (D := (dC, dI)) hx hb hK hP hD hS 23 2 atm28 rfl hi_34 dX9_come_317 (fun H locs hP hD hS => ?_)
                            rw [isB_vp isB1] at hP hD
                            rw [stm28, ← e_s35] at hP hD
                            replace hwp := hwp s35 e_s35
                            refine lv_iload hx hb dX9_come_318 (lv_at hl 2 rfl) ?_
                            exact W.iret (v := (sI s3 1002 0)) hx hb hr (fun t ht hW => ⟨⟨(sI s3 1002 0), s35, rfl, hwp, by rw [ht]; exact hP, va_K.moved hW.alike hK, hD⟩, hS.F ht⟩) hS.2.2 dX9_come_320
                        refine lv_if_ne (tgt := 241) hx hb dX9_come_211 (by decide) (fun c_211 => ?_) (fun c_211 => ?_)
                        · replace hwp := hwp.1 c_211
                          exact J241 z205 hwp _ _ _ hP hD hS (lv_sub hl [0, 1, 2, 3, 4, 5] rfl)
                        · replace hwp := hwp.2 c_211
                          refine lv_aload_n hx hb dX9_come_214 rfl (lv_at hl 2 rfl) ?_
                          refine va_get (D := (dC, dI)) (ci := 9) (v := .ref (ad 131 0)) (C := RX9) (T := TX9) (N := 43) hx hb hts iX9_come_9 hown hK hP 0 atModel rfl 31 (by decide) (hts (.fieldLink RX9 95 "LinkQueuesModel" "round" "[I") (by decide +kernel)) (fun _ h9 => h9) rfl dX9_come_215 ?_
                          refine lv_aload_n hx hb dX9_come_218 rfl (lv_at hl 2 rfl) ?_
                          refine va_get (D := (dC, dI)) (ci := 9) (v := .int (sI z205 1030 0)) (C := RX9) (T := TX9) (N := 43) hx hb hts iX9_come_9 hown hK hP 0 atModel rfl 30 (by decide) (hts (.fieldLink RX9 158 "LinkQueuesModel" "roundSize" "I") (by decide +kernel)) (fun _ h9 => h9) rfl dX9_come_219 ?_
                          refine lv_iload_n hx hb dX9_come_222 rfl (lv_at hl 3 rfl) ?_
                          obtain ⟨hi_36, hwp⟩ := hwp
                          obtain ⟨s37, e_s37⟩ : ∃ z, z = upI z205 1031 (sI z205 1030 0).toNatClampNeg a1 := ⟨_, rfl⟩
                          refine va_iast (D := (dC, dI)) hx hb hK hP hD hS 25 1 atm31 rfl hi_36 dX9_come_223 (fun H locs hP hD hS => ?_)
                          rw [stm31, ← e_s37] at hP hD
                          replace hwp := hwp s37 e_s37
                          refine lv_aload_n hx hb dX9_come_224 rfl (lv_at hl 2 rfl) ?_
                          refine lv_dup hx hb dX9_come_225 rfl ?_
                          refine va_get (D := (dC, dI)) (ci := 9) (v := .int (sI s37 1030 0)) (C := RX9) (T := TX9) (N := 43) hx hb hts iX9_come_9 hown hK hP 0 atModel rfl 30 (by decide) (hts (.fieldLink RX9 158 "LinkQueuesModel" "roundSize" "I") (by decide +kernel)) (fun _ h9 => h9) rfl dX9_come_226 ?_
                          refine lv_iconst (v := 1) hx hb dX9_come_229 (by decide) ?_
                          refine lv_iadd hx hb dX9_come_230 ?_
                          obtain ⟨s38, e_s38⟩ : ∃ z, z = upI s37 1030 0 ((sI s37 1030 0) + 1) := ⟨_, rfl⟩
                          refine st_put (D := (dC, dI)) (ci := 9) (v := .int ((sI s37 1030 0) + 1)) (ty := .int) (C := RX9) (T := TX9) (N := 43) (ws' := Wm cA ad s38) hx hb hts iX9_come_9 tyX9 tyX9_ok nmX9 hown hK hP hD hS 0 atModel rfl 30 (by decide) (hts (.fieldLink RX9 158 "LinkQueuesModel" "roundSize" "I") (by decide +kernel)) (fun _ h9 => h9) rfl (by decide +kernel) rfl rfl (Nat.le_of_ble_eq_true rfl) dX9_come_231 (by rw [e_s38]; exact stM_30 ((sI s37 1030 0) + 1)) (fun H locs hP hD hS => ?_)
                          replace hwp := hwp s38 e_s38
                          refine lv_aload_n hx hb dX9_come_234 rfl (lv_at hl 2 rfl) ?_
                          refine va_get (D := (dC, dI)) (ci := 9) (v := .ref (ad 132 0)) (C := RX9) (T := TX9) (N := 43) hx hb hts iX9_come_9 hown hK hP 0 atModel rfl 32 (by decide) (hts (.fieldLink RX9 98 "LinkQueuesModel" "deficits" "[I") (by decide +kernel)) (fun _ h9 => h9) rfl dX9_come_235 ?_
                          refine lv_iload_n hx hb dX9_come_238 rfl (lv_at hl 3 rfl) ?_
                          refine lv_iconst (v := 0) hx hb dX9_come_239 (by decide) ?_
                          obtain ⟨hi_39, hwp⟩ := hwp
                          obtain ⟨s40, e_s40⟩ : ∃ z, z = upI s38 1032 a1.toNatClampNeg 0 := ⟨_, rfl⟩
                          refine va_iast (D := (dC, dI)) hx hb hK hP hD hS 26 1 atm32 rfl hi_39 dX9_come_240 (fun H locs hP hD hS => ?_)
                          rw [stm32, ← e_s40] at hP hD
                          replace hwp := hwp s40 e_s40
                          exact J241 s40 hwp _ _ _ hP hD hS (lv_sub hl [0, 1, 2, 3, 4, 5] rfl)
                      refine lv_icmp_ne (tgt := 205) hx hb dX9_come_187 (by decide) (fun c_187 => ?_) (fun c_187 => ?_)
                      · replace hwp := hwp.1 c_187
                        exact J205 z184 hwp _ _ _ hP hD hS (lv_sub hl [0, 1, 2, 3, 4, 5] rfl)
                      · replace hwp := hwp.2 c_187
                        refine lv_aload_n hx hb dX9_come_190 rfl (lv_at hl 2 rfl) ?_
                        refine va_get (D := (dC, dI)) (ci := 9) (v := .ref (ad 129 0)) (C := RX9) (T := TX9) (N := 43) hx hb hts iX9_come_9 hown hK hP 0 atModel rfl 29 (by decide) (hts (.fieldLink RX9 92 "LinkQueuesModel" "counts" "[I") (by decide +kernel)) (fun _ h9 => h9) rfl dX9_come_191 ?_
                        refine lv_bipush (v := 10) hx hb dX9_come_194 (by decide) ?_
                        refine lv_iload_n hx hb dX9_come_196 rfl (lv_at hl 3 rfl) ?_
                        refine lv_imul hx hb dX9_come_197 ?_
                        refine lv_iconst (v := 5) hx hb dX9_come_198 (by decide) ?_
                        refine lv_iadd hx hb dX9_come_199 ?_
                        refine lv_dup2_11 hx hb dX9_come_200 rfl rfl ?_
                        obtain ⟨hi_41, hwp⟩ := hwp
                        refine va_iald (D := (dC, dI)) hx hb hK hP 24 1 atm29 rfl hi_41 dX9_come_201 ?_
                        refine lv_iconst (v := 1) hx hb dX9_come_202 (by decide) ?_
                        refine lv_iadd hx hb dX9_come_203 ?_
                        obtain ⟨hi_42, hwp⟩ := hwp
                        obtain ⟨s43, e_s43⟩ : ∃ z, z = upI z184 1029 ((10 * a1) + 5).toNatClampNeg ((sI z184 1029 ((10 * a1) + 5).toNatClampNeg) + 1) := ⟨_, rfl⟩
                        refine va_iast (D := (dC, dI)) hx hb hK hP hD hS 24 1 atm29 rfl hi_42 dX9_come_204 (fun H locs hP hD hS => ?_)
                        rw [stm29, ← e_s43] at hP hD
                        replace hwp := hwp s43 e_s43
                        exact J205 s43 hwp _ _ _ hP hD hS (lv_sub hl [0, 1, 2, 3, 4, 5] rfl)
                    refine lv_icmp_ne (tgt := 184) hx hb dX9_come_160 (by decide) (fun c_160 => ?_) (fun c_160 => ?_)
                    · replace hwp := hwp.1 c_160
                      exact J184 z149 hwp _ _ _ hP hD hS (lv_sub hl [0, 1, 2, 3, 4, 5] rfl)
                    · replace hwp := hwp.2 c_160
                      refine lv_iload_n hx hb dX9_come_163 rfl (lv_at hl 5 rfl) ?_
                      refine lv_if_ne (tgt := 184) hx hb dX9_come_164 (by decide) (fun c_164 => ?_) (fun c_164 => ?_)
                      · replace hwp := hwp.1 c_164
                        exact J184 z149 hwp _ _ _ hP hD hS (lv_sub hl [0, 1, 2, 3, 4, 5] rfl)
                      · replace hwp := hwp.2 c_164
                        exact J167 z149 hwp _ _ _ hP hD hS (lv_sub hl [2, 3] rfl)
                refine lv_icmp_ne (tgt := 148) hx hb dX9_come_137 (by decide) (fun c_137 => ?_) (fun c_137 => ?_)
                · replace hwp := hwp.1 c_137
                  refine lv_iconst (v := 0) hx hb dX9_come_148 (by decide) ?_
                  exact J149 s9 0 hwp _ _ _ hP hD hS (lv_sub hl [2, 3, 4, 5, 6] rfl)
                · replace hwp := hwp.2 c_137
                  refine lv_aload_n hx hb dX9_come_140 rfl (lv_at hl 3 rfl) ?_
                  refine lv_iload_n hx hb dX9_come_141 rfl (lv_at hl 4 rfl) ?_
                  have hF := fA hD hS hA
                  refine va_calli (va_runV (As := [.int a1]) (rest := []) ⟨hx, hb, hml, hown, hts⟩ (c_X9_look l dC dI cA ad s9 a1 H.size _ hwp) (cwV 1 hts gX9_come_X9_look rfl rfl rfl (by decide +kernel) ⟨Nat.le_of_ble_eq_true rfl, Nat.le_of_ble_eq_true rfl⟩) ⟨fbC, va_recv hK hP (ci := 9) (q0 := 0) rfl atModel, fun U hU hW => ⟨rfl, by rw [hU], by rw [hU]; exact hP, va_K.moved hW.alike hK, hD.weaken (fun _ _ _ _ => trivial)⟩⟩ rfl rfl hl.1 rfl (lv_room (Nat.le_of_ble_eq_true rfl)) dX9_come_142 ⟨hkc, hks⟩) hS (fun q _ h => hF q h) hF (fun r45 s44 t H1 locs ht hvm hwp hB hz1 hk1 hS => ?_)
                  obtain ⟨hP1, hK1, hD1⟩ := hB
                  rw [ht] at hP1
                  have hD2 := hD1.weaken (fun _ q _ h => hF q.1 h)
                  clear hP hD
                  have hP := hP1
                  have hD := hD2
                  clear hP1 hD1 hD2 hK1 hk1 hz1 hF
                  generalize H1 = H at hP hS ⊢
                  refine lv_goto (tgt := 149) hx hb dX9_come_145 (by decide) ?_
                  exact J149 s44 r45 hwp _ _ _ hP hD hS (lv_sub hl [2, 3, 4, 5, 6] rfl)
              · replace hwp := hwp.2 c_110
                exact J113 s9 hwp _ _ _ hP hD hS (lv_sub hl [3, 4] rfl)
          · replace hwp := hwp.2 c_75
            refine lv_iload hx hb dX9_come_78 (lv_at hl 1 rfl) ?_
            refine lv_aload_n hx hb dX9_come_80 rfl (lv_at hl 3 rfl) ?_
            refine lv_iload hx hb dX9_come_81 (lv_at hl 0 rfl) ?_
            have hF := fA hD hS hA
            refine va_calli (va_runV (As := [.int x6_71]) (rest := [.int x5_71]) ⟨hx, hb, hml, hown, hts⟩ (c_X9_bytesWaiting l dC dI cA ad z71 x6_71 H.size _ hwp) (cwV 1 hts gX9_come_X9_bytesWaiting rfl rfl rfl (by decide +kernel) ⟨Nat.le_of_ble_eq_true rfl, Nat.le_of_ble_eq_true rfl⟩) ⟨fbC, va_recv hK hP (ci := 9) (q0 := 0) rfl atModel, fun U hU hW => ⟨rfl, by rw [hU], by rw [hU]; exact hP, va_K.moved hW.alike hK, hD.weaken (fun _ _ _ _ => trivial)⟩⟩ rfl rfl hl.1 rfl (lv_room (Nat.le_of_ble_eq_true rfl)) dX9_come_83 ⟨hkc, hks⟩) hS (fun q _ h => hF q h) hF (fun r47 s46 t H1 locs ht hvm hwp hB hz1 hk1 hS => ?_)
            obtain ⟨hP1, hK1, hD1⟩ := hB
            rw [ht] at hP1
            have hD2 := hD1.weaken (fun _ q _ h => hF q.1 h)
            clear hP hD
            have hP := hP1
            have hD := hD2
            clear hP1 hD1 hD2 hK1 hk1 hz1 hF
            generalize H1 = H at hP hS ⊢
            refine lv_iadd hx hb dX9_come_86 ?_
            refine lv_istore (lv' := [(5, .int (x5_71 + r47)), (6, .int x6_71), (4, .int (sI s3 1002 0)), (0, .ref (ad 9 0)), (1, .int a1), (2, .int a2), (3, .int a3)]) hx hb dX9_come_87 hl (by decide) rfl (fun ls hl => ?_)
            refine lv_iinc (v := (x6_71 + 1)) (lv' := [(6, .int (x6_71 + 1)), (5, .int (x5_71 + r47)), (4, .int (sI s3 1002 0)), (0, .ref (ad 9 0)), (1, .int a1), (2, .int a2), (3, .int a3)]) hx hb dX9_come_89 hl (k := 1) rfl rfl (by decide) rfl (fun ls hl => ?_)
            refine lv_goto (tgt := 71) hx hb dX9_come_92 (by decide) ?_
            exact ih71 s46 (x6_71 + 1) (x5_71 + r47) hwp _ _ _ hP hD hS (lv_sub hl [0, 1, 2, 3, 4, 5, 6] rfl)
      exact L71 n71 s8 0 a2 hwp _ _ _ hP hD hS (lv_sub hl [0, 1, 2, 3, 4, 5, 6] rfl)
    · replace hwp := hwp.2 c_29
      refine lv_iconst (v := 0) hx hb dX9_come_32 (by decide) ?_
      exact W.iret (v := 0) hx hb hr (fun t ht hW => ⟨⟨0, s3, rfl, hwp, by rw [ht]; exact hP, va_K.moved hW.alike hK, hD⟩, hS.F ht⟩) hS.2.2 dX9_come_33
  have J25 : ∀ (z25 : ST), wp_X9_come_J25 a1 a2 a3 K (wp_X9_come_J26 a1 a2 a3 K) z25 → ∀ (H : Heap) (locs : List Loc) (ls : Array Slot), va_P (dC, dI) vwCl (Wm cA ad z25) H → va_D A (Wm cA ad z25) → va_S A s.heap H locs → lv_has ls 8 [(0, .ref (ad 9 0)), (1, .int a1), (2, .int a2), (3, .int a3)] → W p l e ({ frames := 2, cells := 0, slots := 0, locals := 49 } : Room) s m ([.ref (ad 9 0), .int a1, .int a2, .int a3] : List Value).toArray below meth c H locs 0 0 (MQ below (va_Qi K (atC dC dI cA (Wm cA ad) A) A) ([.ref (ad 9 0), .int a1, .int a2, .int a3] : List Value).toArray s 0 0 A) (F0 m 25 ls [.ref (ad 9 0)]) := by
    intro z25 hwp H locs ls hP hD hS hl
    refine lv_iconst (v := 1) hx hb dX9_come_25 (by decide) ?_
    exact J26 z25 1 hwp _ _ _ hP hD hS (lv_sub hl [0, 1, 2, 3] rfl)
  refine lv_if_eq (tgt := 25) hx hb dX9_come_7 (by decide) (fun c_7 => ?_) (fun c_7 => ?_)
  · replace hwp := hwp.1 c_7
    exact J25 s1 hwp _ _ _ hP hD hS (lv_sub hl [0, 1, 2, 3] rfl)
  · replace hwp := hwp.2 c_7
    refine lv_iload_n hx hb dX9_come_10 rfl (lv_at hl 2 rfl) ?_
    refine lv_iconst (v := 1) hx hb dX9_come_11 (by decide) ?_
    refine lv_sipush (v := 1500) hx hb dX9_come_12 (by decide) ?_
    have hF := fA hD hS hA
    refine va_calli (va_runS (As := [.int a2, .int 1, .int 1500]) (rest := [.ref (ad 9 0)]) ⟨hx, hb, hml, hown, hts⟩ (c_X9_isIn l dC dI cA ad s1 a2 1 1500 H.size _ hwp) (cwS 3 hts gX9_come_X9_isIn rfl rfl rfl (by decide +kernel) ⟨Nat.le_of_ble_eq_true rfl, Nat.le_of_ble_eq_true rfl⟩) ⟨fbC, fun U hU hW => ⟨rfl, by rw [hU], by rw [hU]; exact hP, va_K.moved hW.alike hK, hD.weaken (fun _ _ _ _ => trivial)⟩⟩ rfl rfl hl.1 rfl (lv_room (Nat.le_of_ble_eq_true rfl)) dX9_come_15 ⟨hkc, hks⟩) hS (fun q _ h => hF q h) hF (fun r49 s48 t H1 locs ht hvm hwp hB hz1 hk1 hS => ?_)
    obtain ⟨hP1, hK1, hD1⟩ := hB
    rw [ht] at hP1
    have hD2 := hD1.weaken (fun _ q _ h => hF q.1 h)
    clear hP hD
    have hP := hP1
    have hD := hD2
    clear hP1 hD1 hD2 hK1 hk1 hz1 hF
    generalize H1 = H at hP hS ⊢
    refine lv_if_eq (tgt := 25) hx hb dX9_come_18 (by decide) (fun c_18 => ?_) (fun c_18 => ?_)
    · replace hwp := hwp.1 c_18
      exact J25 s48 hwp _ _ _ hP hD hS (lv_sub hl [0, 1, 2, 3] rfl)
    · replace hwp := hwp.2 c_18
      refine lv_iconst (v := 0) hx hb dX9_come_21 (by decide) ?_
      refine lv_goto (tgt := 26) hx hb dX9_come_22 (by decide) ?_
      exact J26 s48 0 hwp _ _ _ hP hD hS (lv_sub hl [0, 1, 2, 3] rfl)
def wp_X9_isRound_L4 (a1 : Int32) (K : Int32 → ST → Prop) : Nat → ST → Int32 → Int32 → Prop
  | 0 => fun _ _ _ => False
  | fu4 + 1 => fun z4 x3_4 x2_4 => (((sI z4 1030 0) ≤ x3_4 → (isB x2_4 ∧
K x2_4 z4)) ∧ (¬ ((sI z4 1030 0) ≤ x3_4) → (((¬ x2_4 = 0 → (wp_X9_isRound_L4 a1 K fu4 z4 (x3_4 + 1) 1)) ∧ (x2_4 = 0 → (vp_in x3_4 6 ∧
((¬ (sI z4 1031 x3_4.toNatClampNeg) = a1 → (wp_X9_isRound_L4 a1 K fu4 z4 (x3_4 + 1) 0)) ∧ ((sI z4 1031 x3_4.toNatClampNeg) = a1 → (wp_X9_isRound_L4 a1 K fu4 z4 (x3_4 + 1) 1)))))))))
def wp_X9_isRound (σ : ST) (a1 : Int32) (K : Int32 → ST → Prop) : Prop := ∃ n4, wp_X9_isRound_L4 a1 K n4 σ 0 0
set_option maxRecDepth 20000 in
theorem iX9_isRound_9 : ∀ w ∈ wsX90, w ∈ wsX9_isRound := by decide +kernel
set_option maxHeartbeats 8000000 in
set_option maxRecDepth 100000 in
theorem c_X9_isRound (l : Launch) (dC : Nat → ClassId) (dI : Nat → Nat → Nat) (cA : Nat → ClassId) (ad : Nat → Nat → Nat) (σ : ST) (a1 : Int32) (sz : Nat) (K : Int32 → ST → Prop) (hwp : wp_X9_isRound σ a1 K) : Met l yX9_isRound wsX9_isRound ({ frames := 0, cells := 0, slots := 0, locals := 0 } : Room) (va_Pc [.ref (ad 9 0), .int a1] (preC dC dI cA (Wm cA ad σ) sz)) (va_Qi K (atC dC dI cA (Wm cA ad) (va_A (Wm cA ad σ) sz)) (va_A (Wm cA ad σ) sz)) 0 0 (va_A (Wm cA ad σ) sz) := by
  refine Met.ofW (cc := cX9_isRound) (maxL := 4) (ret := (some .boolean)) (by decide) rfl ?_
  intro p e s m args below meth c s₁ B hml hv
  obtain ⟨rfl, hsz, hP, hK, hD0⟩ := hv
  have hx := B.exec
  have hb := B.bytes
  have hr := B.returns
  have hts := atoms_spec (ws := wsX9_isRound) B.pre
  have hown : s.vm.findClass RX9 = some m.cls := findClass_of_methodNamed B.named
  have hlocks := B.notSynchronized
  subst hsz
  have hD := hD0.self (sz := s.heap.size)
  clear hD0
  generalize hAe : va_A (Wm cA ad σ) s.heap.size = A at hD ⊢
  have hA : ∀ q : Nat, s.heap.size ≤ q → A q := fun q h => by rw [← hAe]; exact Or.inr h
  have hS : va_S A s.heap s.heap [] := va_S.rf
  have hkc : 0 ≤ 0 := Nat.le_refl 0
  have hks : 0 ≤ 0 := Nat.le_refl 0
  have hl := lv_entry ([.ref (ad 9 0), .int a1]) (n := 4) (Nat.le_of_ble_eq_true rfl)
  rw [lg_entry_eq]
  generalize (lg_sl ([.ref (ad 9 0), .int a1]) ++ List.replicate (4 - (lg_sl ([.ref (ad 9 0), .int a1])).length) Slot.unset).toArray = ls at hl ⊢
  have hl : lv_has ls 4 [(0, .ref (ad 9 0)), (1, .int a1)] := hl
  unfold wp_X9_isRound at hwp
  generalize hHe : s.heap = H at hP ⊢
  have hS : va_S A s.heap H [] := by rw [← hHe]; exact va_S.rf
  clear hHe
  refine lv_iconst (v := 0) hx hb dX9_isRound_0 (by decide) ?_
  refine lv_istore_n (lv' := [(2, .int 0), (0, .ref (ad 9 0)), (1, .int a1)]) hx hb dX9_isRound_1 rfl hl (by decide) rfl (fun ls hl => ?_)
  refine lv_iconst (v := 0) hx hb dX9_isRound_2 (by decide) ?_
  refine lv_istore_n (lv' := [(3, .int 0), (2, .int 0), (0, .ref (ad 9 0)), (1, .int a1)]) hx hb dX9_isRound_3 rfl hl (by decide) rfl (fun ls hl => ?_)
  obtain ⟨n4, hwp⟩ := hwp
  have L4 : ∀ (fu4 : Nat) (z4 : ST) (x3_4 : Int32) (x2_4 : Int32), wp_X9_isRound_L4 a1 K fu4 z4 x3_4 x2_4 → ∀ (H : Heap) (locs : List Loc) (ls : Array Slot), va_P (dC, dI) vwCl (Wm cA ad z4) H → va_D A (Wm cA ad z4) → va_S A s.heap H locs → lv_has ls 4 [(3, .int x3_4), (2, .int x2_4), (0, .ref (ad 9 0)), (1, .int a1)] → W p l e ({ frames := 0, cells := 0, slots := 0, locals := 0 } : Room) s m ([.ref (ad 9 0), .int a1] : List Value).toArray below meth c H locs 0 0 (MQ below (va_Qi K (atC dC dI cA (Wm cA ad) A) A) ([.ref (ad 9 0), .int a1] : List Value).toArray s 0 0 A) (F0 m 4 ls []) := by
    intro fu4
    induction fu4 with
    | zero => intro z4 x3_4 x2_4 h; exact h.elim
    | succ fu4 ih4 =>
      intro z4 x3_4 x2_4 hwp H locs ls hP hD hS hl
      refine lv_iload_n hx hb dX9_isRound_4 rfl (lv_at hl 0 rfl) ?_
      refine lv_aload_n hx hb dX9_isRound_5 rfl (lv_at hl 2 rfl) ?_
      refine va_get (D := (dC, dI)) (ci := 9) (v := .int (sI z4 1030 0)) (C := RX9) (T := TX9) (N := 43) hx hb hts iX9_isRound_9 hown hK hP 0 atModel rfl 30 (by decide) (hts (.fieldLink RX9 158 "LinkQueuesModel" "roundSize" "I") (by decide +kernel)) (fun _ h9 => h9) rfl dX9_isRound_6 ?_
      refine lv_icmp_ge (tgt := 38) hx hb dX9_isRound_9 (by decide) (fun c_9 => ?_) (fun c_9 => ?_)
      · replace hwp := hwp.1 c_9
        refine lv_iload_n hx hb dX9_isRound_38 rfl (lv_at hl 1 rfl) ?_
        obtain ⟨hB_1, hwp⟩ := hwp
        exact W.zret (ty := .boolean) (v := x2_4) hx hb hr (isB_nar hB_1) (fun t ht hW => ⟨⟨x2_4, z4, rfl, hwp, by rw [ht]; exact hP, va_K.moved hW.alike hK, hD⟩, hS.F ht⟩) hS.2.2 dX9_isRound_39
      · replace hwp := hwp.2 c_9
        refine lv_iload_n hx hb dX9_isRound_12 rfl (lv_at hl 1 rfl) ?_
        refine lv_if_ne (tgt := 26) hx hb dX9_isRound_13 (by decide) (fun c_13 => ?_) (fun c_13 => ?_)
        · replace hwp := hwp.1 c_13
          refine lv_iconst (v := 1) hx hb dX9_isRound_26 (by decide) ?_
          refine lv_goto (tgt := 31) hx hb dX9_isRound_27 (by decide) ?_
          refine lv_istore_n (lv' := [(2, .int 1), (3, .int x3_4), (0, .ref (ad 9 0)), (1, .int a1)]) hx hb dX9_isRound_31 rfl hl (by decide) rfl (fun ls hl => ?_)
          refine lv_iinc (v := (x3_4 + 1)) (lv' := [(3, .int (x3_4 + 1)), (2, .int 1), (0, .ref (ad 9 0)), (1, .int a1)]) hx hb dX9_isRound_32 hl (k := 1) rfl rfl (by decide) rfl (fun ls hl => ?_)
          refine lv_goto (tgt := 4) hx hb dX9_isRound_35 (by decide) ?_
          exact ih4 z4 (x3_4 + 1) 1 hwp _ _ _ hP hD hS (lv_sub hl [0, 1, 2, 3] rfl)
        · replace hwp := hwp.2 c_13
          refine lv_aload_n hx hb dX9_isRound_16 rfl (lv_at hl 2 rfl) ?_
          refine va_get (D := (dC, dI)) (ci := 9) (v := .ref (ad 131 0)) (C := RX9) (T := TX9) (N := 43) hx hb hts iX9_isRound_9 hown hK hP 0 atModel rfl 31 (by decide) (hts (.fieldLink RX9 95 "LinkQueuesModel" "round" "[I") (by decide +kernel)) (fun _ h9 => h9) rfl dX9_isRound_17 ?_
          refine lv_iload_n hx hb dX9_isRound_20 rfl (lv_at hl 0 rfl) ?_
          obtain ⟨hi_2, hwp⟩ := hwp
          refine va_iald (D := (dC, dI)) hx hb hK hP 25 1 atm31 rfl hi_2 dX9_isRound_21 ?_
          refine lv_iload_n hx hb dX9_isRound_22 rfl (lv_at hl 3 rfl) ?_
          refine lv_icmp_ne (tgt := 30) hx hb dX9_isRound_23 (by decide) (fun c_23 => ?_) (fun c_23 => ?_)
          · replace hwp := hwp.1 c_23
            refine lv_iconst (v := 0) hx hb dX9_isRound_30 (by decide) ?_
            refine lv_istore_n (lv' := [(2, .int 0), (3, .int x3_4), (0, .ref (ad 9 0)), (1, .int a1)]) hx hb dX9_isRound_31 rfl hl (by decide) rfl (fun ls hl => ?_)
            refine lv_iinc (v := (x3_4 + 1)) (lv' := [(3, .int (x3_4 + 1)), (2, .int 0), (0, .ref (ad 9 0)), (1, .int a1)]) hx hb dX9_isRound_32 hl (k := 1) rfl rfl (by decide) rfl (fun ls hl => ?_)
            refine lv_goto (tgt := 4) hx hb dX9_isRound_35 (by decide) ?_
            exact ih4 z4 (x3_4 + 1) 0 hwp _ _ _ hP hD hS (lv_sub hl [0, 1, 2, 3] rfl)
          · replace hwp := hwp.2 c_23
            refine lv_iconst (v := 1) hx hb dX9_isRound_26 (by decide) ?_
            refine lv_goto (tgt := 31) hx hb dX9_isRound_27 (by decide) ?_
            refine lv_istore_n (lv' := [(2, .int 1), (3, .int x3_4), (0, .ref (ad 9 0)), (1, .int a1)]) hx hb dX9_isRound_31 rfl hl (by decide) rfl (fun ls hl => ?_)
            refine lv_iinc (v := (x3_4 + 1)) (lv' := [(3, .int (x3_4 + 1)), (2, .int 1), (0, .ref (ad 9 0)), (1, .int a1)]) hx hb dX9_isRound_32 hl (k := 1) rfl rfl (by decide) rfl (fun ls hl => ?_)
            refine lv_goto (tgt := 4) hx hb dX9_isRound_35 (by decide) ?_
            exact ih4 z4 (x3_4 + 1) 1 hwp _ _ _ hP hD hS (lv_sub hl [0, 1, 2, 3] rfl)
  exact L4 n4 σ 0 0 hwp _ _ _ hP hD hS (lv_sub hl [0, 1, 2, 3] rfl)
def wp_X9_count_J25 (a1 : Int32) (a2 : Int32) (K : Int32 → ST → Prop) (z25 : ST) (y0_25 : Int32) : Prop := wp_X9_refused z25 y0_25 (fun r4 s3 =>
((r4 = 0 → (((¬ a2 = 6 → (((¬ a2 = 7 → (((¬ a2 = 9 → (vp_in ((10 * a1) + a2) 60 ∧
K (sI s3 1029 ((10 * a1) + a2).toNatClampNeg) s3)) ∧ (a2 = 9 → (wp_X9_isRound s3 a1 (fun r7 s6 =>
((r7 = 0 → (K 0 s6)) ∧ (¬ (r7 = 0) → (vp_in a1 6 ∧
K (sI s6 1032 a1.toNatClampNeg) s6)))
)))))) ∧ (a2 = 7 → (wp_X9_bytesWaiting s3 a1 (fun r10 s9 =>
K r10 s9
)))))) ∧ (a2 = 6 → (vp_in a1 6 ∧
K (sI s3 1023 a1.toNatClampNeg) s3))))) ∧ (¬ (r4 = 0) → (K 0 s3)))
)
def wp_X9_count_J24 (a1 : Int32) (a2 : Int32) (K : Int32 → ST → Prop) (G25 : ST → Int32 → Prop) (z24 : ST) : Prop := G25 z24 1
def wp_X9_count (σ : ST) (a1 : Int32) (a2 : Int32) (K : Int32 → ST → Prop) : Prop := wp_X9_isIn σ a1 0 5 (fun r2 s1 =>
((r2 = 0 → (wp_X9_count_J24 a1 a2 K (wp_X9_count_J25 a1 a2 K) s1)) ∧ (¬ (r2 = 0) → (wp_X9_isIn s1 a2 0 9 (fun r13 s12 =>
((r13 = 0 → (wp_X9_count_J24 a1 a2 K (wp_X9_count_J25 a1 a2 K) s12)) ∧ (¬ (r13 = 0) → (wp_X9_count_J25 a1 a2 K s12 0)))
))))
)
set_option maxRecDepth 20000 in
theorem iX9_count_9 : ∀ w ∈ wsX90, w ∈ wsX9_count := by decide +kernel
set_option maxHeartbeats 8000000 in
set_option maxRecDepth 100000 in
theorem c_X9_count (l : Launch) (dC : Nat → ClassId) (dI : Nat → Nat → Nat) (cA : Nat → ClassId) (ad : Nat → Nat → Nat) (σ : ST) (a1 : Int32) (a2 : Int32) (sz : Nat) (K : Int32 → ST → Prop) (hwp : wp_X9_count σ a1 a2 K) : Met l yX9_count wsX9_count ({ frames := 1, cells := 0, slots := 0, locals := 23 } : Room) (va_Pc [.ref (ad 9 0), .int a1, .int a2] (preC dC dI cA (Wm cA ad σ) sz)) (va_Qi K (atC dC dI cA (Wm cA ad) (va_A (Wm cA ad σ) sz)) (va_A (Wm cA ad σ) sz)) 0 0 (va_A (Wm cA ad σ) sz) := by
  refine Met.ofW (cc := cX9_count) (maxL := 3) (ret := (some .int)) (by decide) rfl ?_
  intro p e s m args below meth c s₁ B hml hv
  obtain ⟨rfl, hsz, hP, hK, hD0⟩ := hv
  have hx := B.exec
  have hb := B.bytes
  have hr := B.returns
  have hts := atoms_spec (ws := wsX9_count) B.pre
  have hown : s.vm.findClass RX9 = some m.cls := findClass_of_methodNamed B.named
  have hlocks := B.notSynchronized
  subst hsz
  have hD := hD0.self (sz := s.heap.size)
  clear hD0
  generalize hAe : va_A (Wm cA ad σ) s.heap.size = A at hD ⊢
  have hA : ∀ q : Nat, s.heap.size ≤ q → A q := fun q h => by rw [← hAe]; exact Or.inr h
  have hS : va_S A s.heap s.heap [] := va_S.rf
  have hkc : 0 ≤ 0 := Nat.le_refl 0
  have hks : 0 ≤ 0 := Nat.le_refl 0
  have hl := lv_entry ([.ref (ad 9 0), .int a1, .int a2]) (n := 3) (Nat.le_of_ble_eq_true rfl)
  rw [lg_entry_eq]
  generalize (lg_sl ([.ref (ad 9 0), .int a1, .int a2]) ++ List.replicate (3 - (lg_sl ([.ref (ad 9 0), .int a1, .int a2])).length) Slot.unset).toArray = ls at hl ⊢
  have hl : lv_has ls 3 [(0, .ref (ad 9 0)), (1, .int a1), (2, .int a2)] := hl
  unfold wp_X9_count at hwp
  generalize hHe : s.heap = H at hP ⊢
  have hS : va_S A s.heap H [] := by rw [← hHe]; exact va_S.rf
  clear hHe
  refine lv_aload_n hx hb dX9_count_0 rfl (lv_at hl 0 rfl) ?_
  refine lv_iload_n hx hb dX9_count_1 rfl (lv_at hl 1 rfl) ?_
  refine lv_iconst (v := 0) hx hb dX9_count_2 (by decide) ?_
  refine lv_iconst (v := 5) hx hb dX9_count_3 (by decide) ?_
  have hF := fA hD hS hA
  refine va_calli (va_runS (As := [.int a1, .int 0, .int 5]) (rest := [.ref (ad 9 0)]) ⟨hx, hb, hml, hown, hts⟩ (c_X9_isIn l dC dI cA ad σ a1 0 5 H.size _ hwp) (cwS 3 hts gX9_count_X9_isIn rfl rfl rfl (by decide +kernel) ⟨Nat.le_of_ble_eq_true rfl, Nat.le_of_ble_eq_true rfl⟩) ⟨fbC, fun U hU hW => ⟨rfl, by rw [hU], by rw [hU]; exact hP, va_K.moved hW.alike hK, hD.weaken (fun _ _ _ _ => trivial)⟩⟩ rfl rfl hl.1 rfl (lv_room (Nat.le_of_ble_eq_true rfl)) dX9_count_4 ⟨hkc, hks⟩) hS (fun q _ h => hF q h) hF (fun r2 s1 t H1 locs ht hvm hwp hB hz1 hk1 hS => ?_)
  obtain ⟨hP1, hK1, hD1⟩ := hB
  rw [ht] at hP1
  have hD2 := hD1.weaken (fun _ q _ h => hF q.1 h)
  clear hP hD
  have hP := hP1
  have hD := hD2
  clear hP1 hD1 hD2 hK1 hk1 hz1 hF
  generalize H1 = H at hP hS ⊢
  have J25 : ∀ (z25 : ST) (y0_25 : Int32), wp_X9_count_J25 a1 a2 K z25 y0_25 → ∀ (H : Heap) (locs : List Loc) (ls : Array Slot), va_P (dC, dI) vwCl (Wm cA ad z25) H → va_D A (Wm cA ad z25) → va_S A s.heap H locs → lv_has ls 3 [(0, .ref (ad 9 0)), (1, .int a1), (2, .int a2)] → W p l e ({ frames := 1, cells := 0, slots := 0, locals := 23 } : Room) s m ([.ref (ad 9 0), .int a1, .int a2] : List Value).toArray below meth c H locs 0 0 (MQ below (va_Qi K (atC dC dI cA (Wm cA ad) A) A) ([.ref (ad 9 0), .int a1, .int a2] : List Value).toArray s 0 0 A) (F0 m 25 ls [.int y0_25, .ref (ad 9 0)]) := by
    intro z25 y0_25 hwp H locs ls hP hD hS hl
    have hF := fA hD hS hA
    refine va_calli (va_runV (As := [.int y0_25]) (rest := []) ⟨hx, hb, hml, hown, hts⟩ (c_X9_refused l dC dI cA ad z25 y0_25 H.size _ hwp) (cwV 1 hts gX9_count_X9_refused rfl rfl rfl (by decide +kernel) ⟨Nat.le_of_ble_eq_true rfl, Nat.le_of_ble_eq_true rfl⟩) ⟨fbC, va_recv hK hP (ci := 9) (q0 := 0) rfl atModel, fun U hU hW => ⟨rfl, by rw [hU], by rw [hU]; exact hP, va_K.moved hW.alike hK, hD.weaken (fun _ _ _ _ => trivial)⟩⟩ rfl rfl hl.1 rfl (lv_room (Nat.le_of_ble_eq_true rfl)) dX9_count_25 ⟨hkc, hks⟩) hS (fun q _ h => hF q h) hF (fun r4 s3 t H1 locs ht hvm hwp hB hz1 hk1 hS => ?_)
    obtain ⟨hP1, hK1, hD1⟩ := hB
    rw [ht] at hP1
    have hD2 := hD1.weaken (fun _ q _ h => hF q.1 h)
    clear hP hD
    have hP := hP1
    have hD := hD2
    clear hP1 hD1 hD2 hK1 hk1 hz1 hF
    generalize H1 = H at hP hS ⊢
    refine lv_if_eq (tgt := 33) hx hb dX9_count_28 (by decide) (fun c_28 => ?_) (fun c_28 => ?_)
    · replace hwp := hwp.1 c_28
      refine lv_iload_n hx hb dX9_count_33 rfl (lv_at hl 2 rfl) ?_
      refine lv_bipush (v := 6) hx hb dX9_count_34 (by decide) ?_
      refine lv_icmp_ne (tgt := 48) hx hb dX9_count_36 (by decide) (fun c_36 => ?_) (fun c_36 => ?_)
      · replace hwp := hwp.1 c_36
        refine lv_iload_n hx hb dX9_count_48 rfl (lv_at hl 2 rfl) ?_
        refine lv_bipush (v := 7) hx hb dX9_count_49 (by decide) ?_
        refine lv_icmp_ne (tgt := 62) hx hb dX9_count_51 (by decide) (fun c_51 => ?_) (fun c_51 => ?_)
        · replace hwp := hwp.1 c_51
          refine lv_iload_n hx hb dX9_count_62 rfl (lv_at hl 2 rfl) ?_
          refine lv_bipush (v := 9) hx hb dX9_count_63 (by decide) ?_
          refine lv_icmp_ne (tgt := 89) hx hb dX9_count_65 (by decide) (fun c_65 => ?_) (fun c_65 => ?_)
          · replace hwp := hwp.1 c_65
            refine lv_aload_n hx hb dX9_count_89 rfl (lv_at hl 0 rfl) ?_
            refine va_get (D := (dC, dI)) (ci := 9) (v := .ref (ad 129 0)) (C := RX9) (T := TX9) (N := 43) hx hb hts iX9_count_9 hown hK hP 0 atModel rfl 29 (by decide) (hts (.fieldLink RX9 92 "LinkQueuesModel" "counts" "[I") (by decide +kernel)) (fun _ h9 => h9) rfl dX9_count_90 ?_
            refine lv_bipush (v := 10) hx hb dX9_count_93 (by decide) ?_
            refine lv_iload_n hx hb dX9_count_95 rfl (lv_at hl 1 rfl) ?_
            refine lv_imul hx hb dX9_count_96 ?_
            refine lv_iload_n hx hb dX9_count_97 rfl (lv_at hl 2 rfl) ?_
            refine lv_iadd hx hb dX9_count_98 ?_
            obtain ⟨hi_5, hwp⟩ := hwp
            refine va_iald (D := (dC, dI)) hx hb hK hP 24 1 atm29 rfl hi_5 dX9_count_99 ?_
            exact W.iret (v := (sI s3 1029 ((10 * a1) + a2).toNatClampNeg)) hx hb hr (fun t ht hW => ⟨⟨(sI s3 1029 ((10 * a1) + a2).toNatClampNeg), s3, rfl, hwp, by rw [ht]; exact hP, va_K.moved hW.alike hK, hD⟩, hS.F ht⟩) hS.2.2 dX9_count_100
          · replace hwp := hwp.2 c_65
            refine lv_aload_n hx hb dX9_count_68 rfl (lv_at hl 0 rfl) ?_
            refine lv_iload_n hx hb dX9_count_69 rfl (lv_at hl 1 rfl) ?_
            have hF := fA hD hS hA
            refine va_calli (va_runV (As := [.int a1]) (rest := []) ⟨hx, hb, hml, hown, hts⟩ (c_X9_isRound l dC dI cA ad s3 a1 H.size _ hwp) (cwV 1 hts gX9_count_X9_isRound rfl rfl rfl (by decide +kernel) ⟨Nat.le_of_ble_eq_true rfl, Nat.le_of_ble_eq_true rfl⟩) ⟨fbC, va_recv hK hP (ci := 9) (q0 := 0) rfl atModel, fun U hU hW => ⟨rfl, by rw [hU], by rw [hU]; exact hP, va_K.moved hW.alike hK, hD.weaken (fun _ _ _ _ => trivial)⟩⟩ rfl rfl hl.1 rfl (lv_room (Nat.le_of_ble_eq_true rfl)) dX9_count_70 ⟨hkc, hks⟩) hS (fun q _ h => hF q h) hF (fun r7 s6 t H1 locs ht hvm hwp hB hz1 hk1 hS => ?_)
            obtain ⟨hP1, hK1, hD1⟩ := hB
            rw [ht] at hP1
            have hD2 := hD1.weaken (fun _ q _ h => hF q.1 h)
            clear hP hD
            have hP := hP1
            have hD := hD2
            clear hP1 hD1 hD2 hK1 hk1 hz1 hF
            generalize H1 = H at hP hS ⊢
            refine lv_if_eq (tgt := 85) hx hb dX9_count_73 (by decide) (fun c_73 => ?_) (fun c_73 => ?_)
            · replace hwp := hwp.1 c_73
              refine lv_iconst (v := 0) hx hb dX9_count_85 (by decide) ?_
              refine lv_goto (tgt := 100) hx hb dX9_count_86 (by decide) ?_
              exact W.iret (v := 0) hx hb hr (fun t ht hW => ⟨⟨0, s6, rfl, hwp, by rw [ht]; exact hP, va_K.moved hW.alike hK, hD⟩, hS.F ht⟩) hS.2.2 dX9_count_100
            · replace hwp := hwp.2 c_73
              refine lv_aload_n hx hb dX9_count_76 rfl (lv_at hl 0 rfl) ?_
              refine va_get (D := (dC, dI)) (ci := 9) (v := .ref (ad 132 0)) (C := RX9) (T := TX9) (N := 43) hx hb hts iX9_count_9 hown hK hP 0 atModel rfl 32 (by decide) (hts (.fieldLink RX9 98 "LinkQueuesModel" "deficits" "[I") (by decide +kernel)) (fun _ h9 => h9) rfl dX9_count_77 ?_
              refine lv_iload_n hx hb dX9_count_80 rfl (lv_at hl 1 rfl) ?_
              obtain ⟨hi_8, hwp⟩ := hwp
              refine va_iald (D := (dC, dI)) hx hb hK hP 26 1 atm32 rfl hi_8 dX9_count_81 ?_
              refine lv_goto (tgt := 100) hx hb dX9_count_82 (by decide) ?_
              exact W.iret (v := (sI s6 1032 a1.toNatClampNeg)) hx hb hr (fun t ht hW => ⟨⟨(sI s6 1032 a1.toNatClampNeg), s6, rfl, hwp, by rw [ht]; exact hP, va_K.moved hW.alike hK, hD⟩, hS.F ht⟩) hS.2.2 dX9_count_100
        · replace hwp := hwp.2 c_51
          refine lv_aload_n hx hb dX9_count_54 rfl (lv_at hl 0 rfl) ?_
          refine lv_iload_n hx hb dX9_count_55 rfl (lv_at hl 1 rfl) ?_
          have hF := fA hD hS hA
          refine va_calli (va_runV (As := [.int a1]) (rest := []) ⟨hx, hb, hml, hown, hts⟩ (c_X9_bytesWaiting l dC dI cA ad s3 a1 H.size _ hwp) (cwV 1 hts gX9_count_X9_bytesWaiting rfl rfl rfl (by decide +kernel) ⟨Nat.le_of_ble_eq_true rfl, Nat.le_of_ble_eq_true rfl⟩) ⟨fbC, va_recv hK hP (ci := 9) (q0 := 0) rfl atModel, fun U hU hW => ⟨rfl, by rw [hU], by rw [hU]; exact hP, va_K.moved hW.alike hK, hD.weaken (fun _ _ _ _ => trivial)⟩⟩ rfl rfl hl.1 rfl (lv_room (Nat.le_of_ble_eq_true rfl)) dX9_count_56 ⟨hkc, hks⟩) hS (fun q _ h => hF q h) hF (fun r10 s9 t H1 locs ht hvm hwp hB hz1 hk1 hS => ?_)
          obtain ⟨hP1, hK1, hD1⟩ := hB
          rw [ht] at hP1
          have hD2 := hD1.weaken (fun _ q _ h => hF q.1 h)
          clear hP hD
          have hP := hP1
          have hD := hD2
          clear hP1 hD1 hD2 hK1 hk1 hz1 hF
          generalize H1 = H at hP hS ⊢
          refine lv_goto (tgt := 100) hx hb dX9_count_59 (by decide) ?_
          exact W.iret (v := r10) hx hb hr (fun t ht hW => ⟨⟨r10, s9, rfl, hwp, by rw [ht]; exact hP, va_K.moved hW.alike hK, hD⟩, hS.F ht⟩) hS.2.2 dX9_count_100
      · replace hwp := hwp.2 c_36
        refine lv_aload_n hx hb dX9_count_39 rfl (lv_at hl 0 rfl) ?_
        refine va_get (D := (dC, dI)) (ci := 9) (v := .ref (ad 123 0)) (C := RX9) (T := TX9) (N := 43) hx hb hts iX9_count_9 hown hK hP 0 atModel rfl 23 (by decide) (hts (.fieldLink RX9 74 "LinkQueuesModel" "sizes" "[I") (by decide +kernel)) (fun _ h9 => h9) rfl dX9_count_40 ?_
        refine lv_iload_n hx hb dX9_count_43 rfl (lv_at hl 1 rfl) ?_
        obtain ⟨hi_11, hwp⟩ := hwp
        refine va_iald (D := (dC, dI)) hx hb hK hP 18 1 atm23 rfl hi_11 dX9_count_44 ?_
        refine lv_goto (tgt := 100) hx hb dX9_count_45 (by decide) ?_
        exact W.iret (v := (sI s3 1023 a1.toNatClampNeg)) hx hb hr (fun t ht hW => ⟨⟨(sI s3 1023 a1.toNatClampNeg), s3, rfl, hwp, by rw [ht]; exact hP, va_K.moved hW.alike hK, hD⟩, hS.F ht⟩) hS.2.2 dX9_count_100
    · replace hwp := hwp.2 c_28
      refine lv_iconst (v := 0) hx hb dX9_count_31 (by decide) ?_
      exact W.iret (v := 0) hx hb hr (fun t ht hW => ⟨⟨0, s3, rfl, hwp, by rw [ht]; exact hP, va_K.moved hW.alike hK, hD⟩, hS.F ht⟩) hS.2.2 dX9_count_32
  have J24 : ∀ (z24 : ST), wp_X9_count_J24 a1 a2 K (wp_X9_count_J25 a1 a2 K) z24 → ∀ (H : Heap) (locs : List Loc) (ls : Array Slot), va_P (dC, dI) vwCl (Wm cA ad z24) H → va_D A (Wm cA ad z24) → va_S A s.heap H locs → lv_has ls 3 [(0, .ref (ad 9 0)), (1, .int a1), (2, .int a2)] → W p l e ({ frames := 1, cells := 0, slots := 0, locals := 23 } : Room) s m ([.ref (ad 9 0), .int a1, .int a2] : List Value).toArray below meth c H locs 0 0 (MQ below (va_Qi K (atC dC dI cA (Wm cA ad) A) A) ([.ref (ad 9 0), .int a1, .int a2] : List Value).toArray s 0 0 A) (F0 m 24 ls [.ref (ad 9 0)]) := by
    intro z24 hwp H locs ls hP hD hS hl
    refine lv_iconst (v := 1) hx hb dX9_count_24 (by decide) ?_
    exact J25 z24 1 hwp _ _ _ hP hD hS (lv_sub hl [0, 1, 2] rfl)
  refine lv_if_eq (tgt := 24) hx hb dX9_count_7 (by decide) (fun c_7 => ?_) (fun c_7 => ?_)
  · replace hwp := hwp.1 c_7
    exact J24 s1 hwp _ _ _ hP hD hS (lv_sub hl [0, 1, 2] rfl)
  · replace hwp := hwp.2 c_7
    refine lv_iload_n hx hb dX9_count_10 rfl (lv_at hl 2 rfl) ?_
    refine lv_iconst (v := 0) hx hb dX9_count_11 (by decide) ?_
    refine lv_bipush (v := 9) hx hb dX9_count_12 (by decide) ?_
    have hF := fA hD hS hA
    refine va_calli (va_runS (As := [.int a2, .int 0, .int 9]) (rest := [.ref (ad 9 0)]) ⟨hx, hb, hml, hown, hts⟩ (c_X9_isIn l dC dI cA ad s1 a2 0 9 H.size _ hwp) (cwS 3 hts gX9_count_X9_isIn rfl rfl rfl (by decide +kernel) ⟨Nat.le_of_ble_eq_true rfl, Nat.le_of_ble_eq_true rfl⟩) ⟨fbC, fun U hU hW => ⟨rfl, by rw [hU], by rw [hU]; exact hP, va_K.moved hW.alike hK, hD.weaken (fun _ _ _ _ => trivial)⟩⟩ rfl rfl hl.1 rfl (lv_room (Nat.le_of_ble_eq_true rfl)) dX9_count_14 ⟨hkc, hks⟩) hS (fun q _ h => hF q h) hF (fun r13 s12 t H1 locs ht hvm hwp hB hz1 hk1 hS => ?_)
    obtain ⟨hP1, hK1, hD1⟩ := hB
    rw [ht] at hP1
    have hD2 := hD1.weaken (fun _ q _ h => hF q.1 h)
    clear hP hD
    have hP := hP1
    have hD := hD2
    clear hP1 hD1 hD2 hK1 hk1 hz1 hF
    generalize H1 = H at hP hS ⊢
    refine lv_if_eq (tgt := 24) hx hb dX9_count_17 (by decide) (fun c_17 => ?_) (fun c_17 => ?_)
    · replace hwp := hwp.1 c_17
      exact J24 s12 hwp _ _ _ hP hD hS (lv_sub hl [0, 1, 2] rfl)
    · replace hwp := hwp.2 c_17
      refine lv_iconst (v := 0) hx hb dX9_count_20 (by decide) ?_
      refine lv_goto (tgt := 25) hx hb dX9_count_21 (by decide) ?_
      exact J25 s12 0 hwp _ _ _ hP hD hS (lv_sub hl [0, 1, 2] rfl)
def wp_X9_average_J15 (a1 : Int32) (K : UInt64 → ST → Prop) (z15 : ST) (y0_15 : Int32) : Prop := wp_X9_refused z15 y0_15 (fun r4 s3 =>
((r4 = 0 → (vp_in a1 6 ∧
K (sD s3 1012 a1.toNatClampNeg) s3)) ∧ (¬ (r4 = 0) → (K FP.dconst0 s3)))
)
def wp_X9_average (σ : ST) (a1 : Int32) (K : UInt64 → ST → Prop) : Prop := wp_X9_isIn σ a1 0 5 (fun r2 s1 =>
((r2 = 0 → (wp_X9_average_J15 a1 K s1 1)) ∧ (¬ (r2 = 0) → (wp_X9_average_J15 a1 K s1 0)))
)
set_option maxRecDepth 20000 in
theorem iX9_average_9 : ∀ w ∈ wsX90, w ∈ wsX9_average := by decide +kernel
set_option maxHeartbeats 8000000 in
set_option maxRecDepth 100000 in
theorem c_X9_average (l : Launch) (dC : Nat → ClassId) (dI : Nat → Nat → Nat) (cA : Nat → ClassId) (ad : Nat → Nat → Nat) (σ : ST) (a1 : Int32) (sz : Nat) (K : UInt64 → ST → Prop) (hwp : wp_X9_average σ a1 K) : Met l yX9_average wsX9_average ({ frames := 1, cells := 0, slots := 0, locals := 22 } : Room) (va_Pc [.ref (ad 9 0), .int a1] (preC dC dI cA (Wm cA ad σ) sz)) (va_Qd K (atC dC dI cA (Wm cA ad) (va_A (Wm cA ad σ) sz)) (va_A (Wm cA ad σ) sz)) 0 0 (va_A (Wm cA ad σ) sz) := by
  refine Met.ofW (cc := cX9_average) (maxL := 2) (ret := (some .double)) (by decide) rfl ?_
  intro p e s m args below meth c s₁ B hml hv
  obtain ⟨rfl, hsz, hP, hK, hD0⟩ := hv
  have hx := B.exec
  have hb := B.bytes
  have hr := B.returns
  have hts := atoms_spec (ws := wsX9_average) B.pre
  have hown : s.vm.findClass RX9 = some m.cls := findClass_of_methodNamed B.named
  have hlocks := B.notSynchronized
  subst hsz
  have hD := hD0.self (sz := s.heap.size)
  clear hD0
  generalize hAe : va_A (Wm cA ad σ) s.heap.size = A at hD ⊢
  have hA : ∀ q : Nat, s.heap.size ≤ q → A q := fun q h => by rw [← hAe]; exact Or.inr h
  have hS : va_S A s.heap s.heap [] := va_S.rf
  have hkc : 0 ≤ 0 := Nat.le_refl 0
  have hks : 0 ≤ 0 := Nat.le_refl 0
  have hl := lv_entry ([.ref (ad 9 0), .int a1]) (n := 2) (Nat.le_of_ble_eq_true rfl)
  rw [lg_entry_eq]
  generalize (lg_sl ([.ref (ad 9 0), .int a1]) ++ List.replicate (2 - (lg_sl ([.ref (ad 9 0), .int a1])).length) Slot.unset).toArray = ls at hl ⊢
  have hl : lv_has ls 2 [(0, .ref (ad 9 0)), (1, .int a1)] := hl
  unfold wp_X9_average at hwp
  generalize hHe : s.heap = H at hP ⊢
  have hS : va_S A s.heap H [] := by rw [← hHe]; exact va_S.rf
  clear hHe
  refine lv_aload_n hx hb dX9_average_0 rfl (lv_at hl 0 rfl) ?_
  refine lv_iload_n hx hb dX9_average_1 rfl (lv_at hl 1 rfl) ?_
  refine lv_iconst (v := 0) hx hb dX9_average_2 (by decide) ?_
  refine lv_iconst (v := 5) hx hb dX9_average_3 (by decide) ?_
  have hF := fA hD hS hA
  refine va_calli (va_runS (As := [.int a1, .int 0, .int 5]) (rest := [.ref (ad 9 0)]) ⟨hx, hb, hml, hown, hts⟩ (c_X9_isIn l dC dI cA ad σ a1 0 5 H.size _ hwp) (cwS 3 hts gX9_average_X9_isIn rfl rfl rfl (by decide +kernel) ⟨Nat.le_of_ble_eq_true rfl, Nat.le_of_ble_eq_true rfl⟩) ⟨fbC, fun U hU hW => ⟨rfl, by rw [hU], by rw [hU]; exact hP, va_K.moved hW.alike hK, hD.weaken (fun _ _ _ _ => trivial)⟩⟩ rfl rfl hl.1 rfl (lv_room (Nat.le_of_ble_eq_true rfl)) dX9_average_4 ⟨hkc, hks⟩) hS (fun q _ h => hF q h) hF (fun r2 s1 t H1 locs ht hvm hwp hB hz1 hk1 hS => ?_)
  obtain ⟨hP1, hK1, hD1⟩ := hB
  rw [ht] at hP1
  have hD2 := hD1.weaken (fun _ q _ h => hF q.1 h)
  clear hP hD
  have hP := hP1
  have hD := hD2
  clear hP1 hD1 hD2 hK1 hk1 hz1 hF
  generalize H1 = H at hP hS ⊢
  have J15 : ∀ (z15 : ST) (y0_15 : Int32), wp_X9_average_J15 a1 K z15 y0_15 → ∀ (H : Heap) (locs : List Loc) (ls : Array Slot), va_P (dC, dI) vwCl (Wm cA ad z15) H → va_D A (Wm cA ad z15) → va_S A s.heap H locs → lv_has ls 2 [(0, .ref (ad 9 0)), (1, .int a1)] → W p l e ({ frames := 1, cells := 0, slots := 0, locals := 22 } : Room) s m ([.ref (ad 9 0), .int a1] : List Value).toArray below meth c H locs 0 0 (MQ below (va_Qd K (atC dC dI cA (Wm cA ad) A) A) ([.ref (ad 9 0), .int a1] : List Value).toArray s 0 0 A) (F0 m 15 ls [.int y0_15, .ref (ad 9 0)]) := by
    intro z15 y0_15 hwp H locs ls hP hD hS hl
    have hF := fA hD hS hA
    refine va_calli (va_runV (As := [.int y0_15]) (rest := []) ⟨hx, hb, hml, hown, hts⟩ (c_X9_refused l dC dI cA ad z15 y0_15 H.size _ hwp) (cwV 1 hts gX9_average_X9_refused rfl rfl rfl (by decide +kernel) ⟨Nat.le_of_ble_eq_true rfl, Nat.le_of_ble_eq_true rfl⟩) ⟨fbC, va_recv hK hP (ci := 9) (q0 := 0) rfl atModel, fun U hU hW => ⟨rfl, by rw [hU], by rw [hU]; exact hP, va_K.moved hW.alike hK, hD.weaken (fun _ _ _ _ => trivial)⟩⟩ rfl rfl hl.1 rfl (lv_room (Nat.le_of_ble_eq_true rfl)) dX9_average_15 ⟨hkc, hks⟩) hS (fun q _ h => hF q h) hF (fun r4 s3 t H1 locs ht hvm hwp hB hz1 hk1 hS => ?_)
    obtain ⟨hP1, hK1, hD1⟩ := hB
    rw [ht] at hP1
    have hD2 := hD1.weaken (fun _ q _ h => hF q.1 h)
    clear hP hD
    have hP := hP1
    have hD := hD2
    clear hP1 hD1 hD2 hK1 hk1 hz1 hF
    generalize H1 = H at hP hS ⊢
    refine lv_if_eq (tgt := 25) hx hb dX9_average_18 (by decide) (fun c_18 => ?_) (fun c_18 => ?_)
    · replace hwp := hwp.1 c_18
      refine lv_aload_n hx hb dX9_average_25 rfl (lv_at hl 0 rfl) ?_
      refine va_get (D := (dC, dI)) (ci := 9) (v := .ref (ad 112 0)) (C := RX9) (T := TX9) (N := 43) hx hb hts iX9_average_9 hown hK hP 0 atModel rfl 12 (by decide) (hts (.fieldLink RX9 40 "LinkQueuesModel" "average" "[D") (by decide +kernel)) (fun _ h9 => h9) rfl dX9_average_26 ?_
      refine lv_iload_n hx hb dX9_average_29 rfl (lv_at hl 1 rfl) ?_
      obtain ⟨hi_5, hwp⟩ := hwp
      refine va_dald (D := (dC, dI)) hx hb hK hP 7 0 atm12 rfl hi_5 dX9_average_30 ?_
      exact W.dret (v := (sD s3 1012 a1.toNatClampNeg)) hx hb hr (fun t ht hW => ⟨⟨(sD s3 1012 a1.toNatClampNeg), s3, rfl, hwp, by rw [ht]; exact hP, va_K.moved hW.alike hK, hD⟩, hS.F ht⟩) hS.2.2 dX9_average_31
    · replace hwp := hwp.2 c_18
      refine lv_dconst0 hx hb dX9_average_21 ?_
      refine lv_goto (tgt := 31) hx hb dX9_average_22 (by decide) ?_
      exact W.dret (v := FP.dconst0) hx hb hr (fun t ht hW => ⟨⟨FP.dconst0, s3, rfl, hwp, by rw [ht]; exact hP, va_K.moved hW.alike hK, hD⟩, hS.F ht⟩) hS.2.2 dX9_average_31
  refine lv_if_eq (tgt := 14) hx hb dX9_average_7 (by decide) (fun c_7 => ?_) (fun c_7 => ?_)
  · replace hwp := hwp.1 c_7
    refine lv_iconst (v := 1) hx hb dX9_average_14 (by decide) ?_
    exact J15 s1 1 hwp _ _ _ hP hD hS (lv_sub hl [0, 1] rfl)
  · replace hwp := hwp.2 c_7
    refine lv_iconst (v := 0) hx hb dX9_average_10 (by decide) ?_
    refine lv_goto (tgt := 15) hx hb dX9_average_11 (by decide) ?_
    exact J15 s1 0 hwp _ _ _ hP hD hS (lv_sub hl [0, 1] rfl)
def wp_X9_next_J15 (a1 : Int32) (K : UInt64 → ST → Prop) (z15 : ST) (y0_15 : Int32) : Prop := wp_X9_refused z15 y0_15 (fun r4 s3 =>
((r4 = 0 → (vp_in a1 6 ∧
(((sI s3 1019 a1.toNatClampNeg) = 0 → (K 13830554455654793216 s3)) ∧ (¬ ((sI s3 1019 a1.toNatClampNeg) = 0) → (vp_in a1 6 ∧
K (sD s3 1020 a1.toNatClampNeg) s3))))) ∧ (¬ (r4 = 0) → (K FP.dconst0 s3)))
)
def wp_X9_next (σ : ST) (a1 : Int32) (K : UInt64 → ST → Prop) : Prop := wp_X9_isIn σ a1 0 5 (fun r2 s1 =>
((r2 = 0 → (wp_X9_next_J15 a1 K s1 1)) ∧ (¬ (r2 = 0) → (wp_X9_next_J15 a1 K s1 0)))
)
set_option maxRecDepth 20000 in
theorem iX9_next_9 : ∀ w ∈ wsX90, w ∈ wsX9_next := by decide +kernel
set_option maxHeartbeats 8000000 in
set_option maxRecDepth 100000 in
theorem c_X9_next (l : Launch) (dC : Nat → ClassId) (dI : Nat → Nat → Nat) (cA : Nat → ClassId) (ad : Nat → Nat → Nat) (σ : ST) (a1 : Int32) (sz : Nat) (K : UInt64 → ST → Prop) (hwp : wp_X9_next σ a1 K) : Met l yX9_next wsX9_next ({ frames := 1, cells := 0, slots := 0, locals := 22 } : Room) (va_Pc [.ref (ad 9 0), .int a1] (preC dC dI cA (Wm cA ad σ) sz)) (va_Qd K (atC dC dI cA (Wm cA ad) (va_A (Wm cA ad σ) sz)) (va_A (Wm cA ad σ) sz)) 0 0 (va_A (Wm cA ad σ) sz) := by
  refine Met.ofW (cc := cX9_next) (maxL := 2) (ret := (some .double)) (by decide) rfl ?_
  intro p e s m args below meth c s₁ B hml hv
  obtain ⟨rfl, hsz, hP, hK, hD0⟩ := hv
  have hx := B.exec
  have hb := B.bytes
  have hr := B.returns
  have hts := atoms_spec (ws := wsX9_next) B.pre
  have hown : s.vm.findClass RX9 = some m.cls := findClass_of_methodNamed B.named
  have hlocks := B.notSynchronized
  subst hsz
  have hD := hD0.self (sz := s.heap.size)
  clear hD0
  generalize hAe : va_A (Wm cA ad σ) s.heap.size = A at hD ⊢
  have hA : ∀ q : Nat, s.heap.size ≤ q → A q := fun q h => by rw [← hAe]; exact Or.inr h
  have hS : va_S A s.heap s.heap [] := va_S.rf
  have hkc : 0 ≤ 0 := Nat.le_refl 0
  have hks : 0 ≤ 0 := Nat.le_refl 0
  have hl := lv_entry ([.ref (ad 9 0), .int a1]) (n := 2) (Nat.le_of_ble_eq_true rfl)
  rw [lg_entry_eq]
  generalize (lg_sl ([.ref (ad 9 0), .int a1]) ++ List.replicate (2 - (lg_sl ([.ref (ad 9 0), .int a1])).length) Slot.unset).toArray = ls at hl ⊢
  have hl : lv_has ls 2 [(0, .ref (ad 9 0)), (1, .int a1)] := hl
  unfold wp_X9_next at hwp
  generalize hHe : s.heap = H at hP ⊢
  have hS : va_S A s.heap H [] := by rw [← hHe]; exact va_S.rf
  clear hHe
  refine lv_aload_n hx hb dX9_next_0 rfl (lv_at hl 0 rfl) ?_
  refine lv_iload_n hx hb dX9_next_1 rfl (lv_at hl 1 rfl) ?_
  refine lv_iconst (v := 0) hx hb dX9_next_2 (by decide) ?_
  refine lv_iconst (v := 5) hx hb dX9_next_3 (by decide) ?_
  have hF := fA hD hS hA
  refine va_calli (va_runS (As := [.int a1, .int 0, .int 5]) (rest := [.ref (ad 9 0)]) ⟨hx, hb, hml, hown, hts⟩ (c_X9_isIn l dC dI cA ad σ a1 0 5 H.size _ hwp) (cwS 3 hts gX9_next_X9_isIn rfl rfl rfl (by decide +kernel) ⟨Nat.le_of_ble_eq_true rfl, Nat.le_of_ble_eq_true rfl⟩) ⟨fbC, fun U hU hW => ⟨rfl, by rw [hU], by rw [hU]; exact hP, va_K.moved hW.alike hK, hD.weaken (fun _ _ _ _ => trivial)⟩⟩ rfl rfl hl.1 rfl (lv_room (Nat.le_of_ble_eq_true rfl)) dX9_next_4 ⟨hkc, hks⟩) hS (fun q _ h => hF q h) hF (fun r2 s1 t H1 locs ht hvm hwp hB hz1 hk1 hS => ?_)
  obtain ⟨hP1, hK1, hD1⟩ := hB
  rw [ht] at hP1
  have hD2 := hD1.weaken (fun _ q _ h => hF q.1 h)
  clear hP hD
  have hP := hP1
  have hD := hD2
  clear hP1 hD1 hD2 hK1 hk1 hz1 hF
  generalize H1 = H at hP hS ⊢
  have J15 : ∀ (z15 : ST) (y0_15 : Int32), wp_X9_next_J15 a1 K z15 y0_15 → ∀ (H : Heap) (locs : List Loc) (ls : Array Slot), va_P (dC, dI) vwCl (Wm cA ad z15) H → va_D A (Wm cA ad z15) → va_S A s.heap H locs → lv_has ls 2 [(0, .ref (ad 9 0)), (1, .int a1)] → W p l e ({ frames := 1, cells := 0, slots := 0, locals := 22 } : Room) s m ([.ref (ad 9 0), .int a1] : List Value).toArray below meth c H locs 0 0 (MQ below (va_Qd K (atC dC dI cA (Wm cA ad) A) A) ([.ref (ad 9 0), .int a1] : List Value).toArray s 0 0 A) (F0 m 15 ls [.int y0_15, .ref (ad 9 0)]) := by
    intro z15 y0_15 hwp H locs ls hP hD hS hl
    have hF := fA hD hS hA
    refine va_calli (va_runV (As := [.int y0_15]) (rest := []) ⟨hx, hb, hml, hown, hts⟩ (c_X9_refused l dC dI cA ad z15 y0_15 H.size _ hwp) (cwV 1 hts gX9_next_X9_refused rfl rfl rfl (by decide +kernel) ⟨Nat.le_of_ble_eq_true rfl, Nat.le_of_ble_eq_true rfl⟩) ⟨fbC, va_recv hK hP (ci := 9) (q0 := 0) rfl atModel, fun U hU hW => ⟨rfl, by rw [hU], by rw [hU]; exact hP, va_K.moved hW.alike hK, hD.weaken (fun _ _ _ _ => trivial)⟩⟩ rfl rfl hl.1 rfl (lv_room (Nat.le_of_ble_eq_true rfl)) dX9_next_15 ⟨hkc, hks⟩) hS (fun q _ h => hF q h) hF (fun r4 s3 t H1 locs ht hvm hwp hB hz1 hk1 hS => ?_)
    obtain ⟨hP1, hK1, hD1⟩ := hB
    rw [ht] at hP1
    have hD2 := hD1.weaken (fun _ q _ h => hF q.1 h)
    clear hP hD
    have hP := hP1
    have hD := hD2
    clear hP1 hD1 hD2 hK1 hk1 hz1 hF
    generalize H1 = H at hP hS ⊢
    refine lv_if_eq (tgt := 25) hx hb dX9_next_18 (by decide) (fun c_18 => ?_) (fun c_18 => ?_)
    · replace hwp := hwp.1 c_18
      refine lv_aload_n hx hb dX9_next_25 rfl (lv_at hl 0 rfl) ?_
      refine va_get (D := (dC, dI)) (ci := 9) (v := .ref (ad 119 0)) (C := RX9) (T := TX9) (N := 43) hx hb hts iX9_next_9 hown hK hP 0 atModel rfl 19 (by decide) (hts (.fieldLink RX9 62 "LinkQueuesModel" "drops" "[Z") (by decide +kernel)) (fun _ h9 => h9) rfl dX9_next_26 ?_
      refine lv_iload_n hx hb dX9_next_29 rfl (lv_at hl 1 rfl) ?_
      obtain ⟨hi_5, hwp⟩ := hwp
      refine va_zald (D := (dC, dI)) hx hb hK hP 14 2 atm19 rfl hi_5 dX9_next_30 ?_
      refine lv_if_eq (tgt := 43) hx hb dX9_next_31 (by decide) (fun c_31 => ?_) (fun c_31 => ?_)
      · replace hwp := hwp.1 c_31
        refine lv_ldc2d (v := 13830554455654793216) hx hb hown (hts (.constantDouble RX9 213 (13830554455654793216)) (by decide +kernel)) dX9_next_43 ?_
        exact W.dret (v := 13830554455654793216) hx hb hr (fun t ht hW => ⟨⟨13830554455654793216, s3, rfl, hwp, by rw [ht]; exact hP, va_K.moved hW.alike hK, hD⟩, hS.F ht⟩) hS.2.2 dX9_next_46
      · replace hwp := hwp.2 c_31
        refine lv_aload_n hx hb dX9_next_34 rfl (lv_at hl 0 rfl) ?_
        refine va_get (D := (dC, dI)) (ci := 9) (v := .ref (ad 120 0)) (C := RX9) (T := TX9) (N := 43) hx hb hts iX9_next_9 hown hK hP 0 atModel rfl 20 (by decide) (hts (.fieldLink RX9 65 "LinkQueuesModel" "nextTime" "[D") (by decide +kernel)) (fun _ h9 => h9) rfl dX9_next_35 ?_
        refine lv_iload_n hx hb dX9_next_38 rfl (lv_at hl 1 rfl) ?_
        obtain ⟨hi_6, hwp⟩ := hwp
        refine va_dald (D := (dC, dI)) hx hb hK hP 15 0 atm20 rfl hi_6 dX9_next_39 ?_
        refine lv_goto (tgt := 46) hx hb dX9_next_40 (by decide) ?_
        exact W.dret (v := (sD s3 1020 a1.toNatClampNeg)) hx hb hr (fun t ht hW => ⟨⟨(sD s3 1020 a1.toNatClampNeg), s3, rfl, hwp, by rw [ht]; exact hP, va_K.moved hW.alike hK, hD⟩, hS.F ht⟩) hS.2.2 dX9_next_46
    · replace hwp := hwp.2 c_18
      refine lv_dconst0 hx hb dX9_next_21 ?_
      refine lv_goto (tgt := 46) hx hb dX9_next_22 (by decide) ?_
      exact W.dret (v := FP.dconst0) hx hb hr (fun t ht hW => ⟨⟨FP.dconst0, s3, rfl, hwp, by rw [ht]; exact hP, va_K.moved hW.alike hK, hD⟩, hS.F ht⟩) hS.2.2 dX9_next_46
  refine lv_if_eq (tgt := 14) hx hb dX9_next_7 (by decide) (fun c_7 => ?_) (fun c_7 => ?_)
  · replace hwp := hwp.1 c_7
    refine lv_iconst (v := 1) hx hb dX9_next_14 (by decide) ?_
    exact J15 s1 1 hwp _ _ _ hP hD hS (lv_sub hl [0, 1] rfl)
  · replace hwp := hwp.2 c_7
    refine lv_iconst (v := 0) hx hb dX9_next_10 (by decide) ?_
    refine lv_goto (tgt := 15) hx hb dX9_next_11 (by decide) ?_
    exact J15 s1 0 hwp _ _ _ hP hD hS (lv_sub hl [0, 1] rfl)
def wp_X9_free (σ : ST) (K : UInt64 → ST → Prop) : Prop := ∀ s1, s1 = upI σ 1000 0 0 →
K (sD s1 1005 0) s1
set_option maxRecDepth 20000 in
theorem iX9_free_9 : ∀ w ∈ wsX90, w ∈ wsX9_free := by decide +kernel
set_option maxHeartbeats 8000000 in
set_option maxRecDepth 100000 in
theorem c_X9_free (l : Launch) (dC : Nat → ClassId) (dI : Nat → Nat → Nat) (cA : Nat → ClassId) (ad : Nat → Nat → Nat) (σ : ST) (sz : Nat) (K : UInt64 → ST → Prop) (hwp : wp_X9_free σ K) : Met l yX9_free wsX9_free ({ frames := 0, cells := 0, slots := 0, locals := 0 } : Room) (va_Pc [.ref (ad 9 0)] (preC dC dI cA (Wm cA ad σ) sz)) (va_Qd K (atC dC dI cA (Wm cA ad) (va_A (Wm cA ad σ) sz)) (va_A (Wm cA ad σ) sz)) 0 0 (va_A (Wm cA ad σ) sz) := by
  refine Met.ofW (cc := cX9_free) (maxL := 1) (ret := (some .double)) (by decide) rfl ?_
  intro p e s m args below meth c s₁ B hml hv
  obtain ⟨rfl, hsz, hP, hK, hD0⟩ := hv
  have hx := B.exec
  have hb := B.bytes
  have hr := B.returns
  have hts := atoms_spec (ws := wsX9_free) B.pre
  have hown : s.vm.findClass RX9 = some m.cls := findClass_of_methodNamed B.named
  have hlocks := B.notSynchronized
  subst hsz
  have hD := hD0.self (sz := s.heap.size)
  clear hD0
  generalize hAe : va_A (Wm cA ad σ) s.heap.size = A at hD ⊢
  have hA : ∀ q : Nat, s.heap.size ≤ q → A q := fun q h => by rw [← hAe]; exact Or.inr h
  have hS : va_S A s.heap s.heap [] := va_S.rf
  have hkc : 0 ≤ 0 := Nat.le_refl 0
  have hks : 0 ≤ 0 := Nat.le_refl 0
  have hl := lv_entry ([.ref (ad 9 0)]) (n := 1) (Nat.le_of_ble_eq_true rfl)
  rw [lg_entry_eq]
  generalize (lg_sl ([.ref (ad 9 0)]) ++ List.replicate (1 - (lg_sl ([.ref (ad 9 0)])).length) Slot.unset).toArray = ls at hl ⊢
  have hl : lv_has ls 1 [(0, .ref (ad 9 0))] := hl
  unfold wp_X9_free at hwp
  generalize hHe : s.heap = H at hP ⊢
  have hS : va_S A s.heap H [] := by rw [← hHe]; exact va_S.rf
  clear hHe
  refine lv_aload_n hx hb dX9_free_0 rfl (lv_at hl 0 rfl) ?_
  refine lv_iconst (v := 0) hx hb dX9_free_1 (by decide) ?_
  obtain ⟨s1, e_s1⟩ : ∃ z, z = upI σ 1000 0 0 := ⟨_, rfl⟩
  refine st_put (D := (dC, dI)) (ci := 9) (v := .int 0) (ty := .int) (C := RX9) (T := TX9) (N := 43) (ws' := Wm cA ad s1) hx hb hts iX9_free_9 tyX9 tyX9_ok nmX9 hown hK hP hD hS 0 atModel rfl 0 (by decide) (hts (.fieldLink RX9 115 "LinkQueuesModel" "refusal" "I") (by decide +kernel)) (fun _ h9 => h9) rfl (by decide +kernel) rfl rfl (Nat.le_of_ble_eq_true rfl) dX9_free_2 (by rw [e_s1]; exact stM_0 0) (fun H locs hP hD hS => ?_)
  replace hwp := hwp s1 e_s1
  refine lv_aload_n hx hb dX9_free_5 rfl (lv_at hl 0 rfl) ?_
  refine va_get (D := (dC, dI)) (ci := 9) (v := .double (sD s1 1005 0)) (C := RX9) (T := TX9) (N := 43) hx hb hts iX9_free_9 hown hK hP 0 atModel rfl 5 (by decide) (hts (.fieldLink RX9 198 "LinkQueuesModel" "free" "D") (by decide +kernel)) (fun _ h9 => h9) rfl dX9_free_6 ?_
  exact W.dret (v := (sD s1 1005 0)) hx hb hr (fun t ht hW => ⟨⟨(sD s1 1005 0), s1, rfl, hwp, by rw [ht]; exact hP, va_K.moved hW.alike hK, hD⟩, hS.F ht⟩) hS.2.2 dX9_free_9
def wp_X9_sent_J15 (a1 : Int32) (a2 : Int32) (K : Int32 → ST → Prop) (z15 : ST) (y0_15 : Int32) : Prop := wp_X9_refused z15 y0_15 (fun r4 s3 =>
((r4 = 0 → (wp_X9_isIn s3 a1 0 ((sI s3 1036 0) - 1) (fun r6 s5 =>
((r6 = 0 → (K (-1) s5)) ∧ (¬ (r6 = 0) → (vp_in ((5 * a1) + a2) 160 ∧
K (sI s5 1037 ((5 * a1) + a2).toNatClampNeg) s5)))
))) ∧ (¬ (r4 = 0) → (K 0 s3)))
)
def wp_X9_sent (σ : ST) (a1 : Int32) (a2 : Int32) (K : Int32 → ST → Prop) : Prop := wp_X9_isIn σ a2 0 4 (fun r2 s1 =>
((r2 = 0 → (wp_X9_sent_J15 a1 a2 K s1 1)) ∧ (¬ (r2 = 0) → (wp_X9_sent_J15 a1 a2 K s1 0)))
)
set_option maxRecDepth 20000 in
theorem iX9_sent_9 : ∀ w ∈ wsX90, w ∈ wsX9_sent := by decide +kernel
set_option maxHeartbeats 8000000 in
set_option maxRecDepth 100000 in
theorem c_X9_sent (l : Launch) (dC : Nat → ClassId) (dI : Nat → Nat → Nat) (cA : Nat → ClassId) (ad : Nat → Nat → Nat) (σ : ST) (a1 : Int32) (a2 : Int32) (sz : Nat) (K : Int32 → ST → Prop) (hwp : wp_X9_sent σ a1 a2 K) : Met l yX9_sent wsX9_sent ({ frames := 1, cells := 0, slots := 0, locals := 22 } : Room) (va_Pc [.ref (ad 9 0), .int a1, .int a2] (preC dC dI cA (Wm cA ad σ) sz)) (va_Qi K (atC dC dI cA (Wm cA ad) (va_A (Wm cA ad σ) sz)) (va_A (Wm cA ad σ) sz)) 0 0 (va_A (Wm cA ad σ) sz) := by
  refine Met.ofW (cc := cX9_sent) (maxL := 3) (ret := (some .int)) (by decide) rfl ?_
  intro p e s m args below meth c s₁ B hml hv
  obtain ⟨rfl, hsz, hP, hK, hD0⟩ := hv
  have hx := B.exec
  have hb := B.bytes
  have hr := B.returns
  have hts := atoms_spec (ws := wsX9_sent) B.pre
  have hown : s.vm.findClass RX9 = some m.cls := findClass_of_methodNamed B.named
  have hlocks := B.notSynchronized
  subst hsz
  have hD := hD0.self (sz := s.heap.size)
  clear hD0
  generalize hAe : va_A (Wm cA ad σ) s.heap.size = A at hD ⊢
  have hA : ∀ q : Nat, s.heap.size ≤ q → A q := fun q h => by rw [← hAe]; exact Or.inr h
  have hS : va_S A s.heap s.heap [] := va_S.rf
  have hkc : 0 ≤ 0 := Nat.le_refl 0
  have hks : 0 ≤ 0 := Nat.le_refl 0
  have hl := lv_entry ([.ref (ad 9 0), .int a1, .int a2]) (n := 3) (Nat.le_of_ble_eq_true rfl)
  rw [lg_entry_eq]
  generalize (lg_sl ([.ref (ad 9 0), .int a1, .int a2]) ++ List.replicate (3 - (lg_sl ([.ref (ad 9 0), .int a1, .int a2])).length) Slot.unset).toArray = ls at hl ⊢
  have hl : lv_has ls 3 [(0, .ref (ad 9 0)), (1, .int a1), (2, .int a2)] := hl
  unfold wp_X9_sent at hwp
  generalize hHe : s.heap = H at hP ⊢
  have hS : va_S A s.heap H [] := by rw [← hHe]; exact va_S.rf
  clear hHe
  refine lv_aload_n hx hb dX9_sent_0 rfl (lv_at hl 0 rfl) ?_
  refine lv_iload_n hx hb dX9_sent_1 rfl (lv_at hl 2 rfl) ?_
  refine lv_iconst (v := 0) hx hb dX9_sent_2 (by decide) ?_
  refine lv_iconst (v := 4) hx hb dX9_sent_3 (by decide) ?_
  have hF := fA hD hS hA
  refine va_calli (va_runS (As := [.int a2, .int 0, .int 4]) (rest := [.ref (ad 9 0)]) ⟨hx, hb, hml, hown, hts⟩ (c_X9_isIn l dC dI cA ad σ a2 0 4 H.size _ hwp) (cwS 3 hts gX9_sent_X9_isIn rfl rfl rfl (by decide +kernel) ⟨Nat.le_of_ble_eq_true rfl, Nat.le_of_ble_eq_true rfl⟩) ⟨fbC, fun U hU hW => ⟨rfl, by rw [hU], by rw [hU]; exact hP, va_K.moved hW.alike hK, hD.weaken (fun _ _ _ _ => trivial)⟩⟩ rfl rfl hl.1 rfl (lv_room (Nat.le_of_ble_eq_true rfl)) dX9_sent_4 ⟨hkc, hks⟩) hS (fun q _ h => hF q h) hF (fun r2 s1 t H1 locs ht hvm hwp hB hz1 hk1 hS => ?_)
  obtain ⟨hP1, hK1, hD1⟩ := hB
  rw [ht] at hP1
  have hD2 := hD1.weaken (fun _ q _ h => hF q.1 h)
  clear hP hD
  have hP := hP1
  have hD := hD2
  clear hP1 hD1 hD2 hK1 hk1 hz1 hF
  generalize H1 = H at hP hS ⊢
  have J15 : ∀ (z15 : ST) (y0_15 : Int32), wp_X9_sent_J15 a1 a2 K z15 y0_15 → ∀ (H : Heap) (locs : List Loc) (ls : Array Slot), va_P (dC, dI) vwCl (Wm cA ad z15) H → va_D A (Wm cA ad z15) → va_S A s.heap H locs → lv_has ls 3 [(0, .ref (ad 9 0)), (1, .int a1), (2, .int a2)] → W p l e ({ frames := 1, cells := 0, slots := 0, locals := 22 } : Room) s m ([.ref (ad 9 0), .int a1, .int a2] : List Value).toArray below meth c H locs 0 0 (MQ below (va_Qi K (atC dC dI cA (Wm cA ad) A) A) ([.ref (ad 9 0), .int a1, .int a2] : List Value).toArray s 0 0 A) (F0 m 15 ls [.int y0_15, .ref (ad 9 0)]) := by
    intro z15 y0_15 hwp H locs ls hP hD hS hl
    have hF := fA hD hS hA
    refine va_calli (va_runV (As := [.int y0_15]) (rest := []) ⟨hx, hb, hml, hown, hts⟩ (c_X9_refused l dC dI cA ad z15 y0_15 H.size _ hwp) (cwV 1 hts gX9_sent_X9_refused rfl rfl rfl (by decide +kernel) ⟨Nat.le_of_ble_eq_true rfl, Nat.le_of_ble_eq_true rfl⟩) ⟨fbC, va_recv hK hP (ci := 9) (q0 := 0) rfl atModel, fun U hU hW => ⟨rfl, by rw [hU], by rw [hU]; exact hP, va_K.moved hW.alike hK, hD.weaken (fun _ _ _ _ => trivial)⟩⟩ rfl rfl hl.1 rfl (lv_room (Nat.le_of_ble_eq_true rfl)) dX9_sent_15 ⟨hkc, hks⟩) hS (fun q _ h => hF q h) hF (fun r4 s3 t H1 locs ht hvm hwp hB hz1 hk1 hS => ?_)
    obtain ⟨hP1, hK1, hD1⟩ := hB
    rw [ht] at hP1
    have hD2 := hD1.weaken (fun _ q _ h => hF q.1 h)
    clear hP hD
    have hP := hP1
    have hD := hD2
    clear hP1 hD1 hD2 hK1 hk1 hz1 hF
    generalize H1 = H at hP hS ⊢
    refine lv_if_eq (tgt := 23) hx hb dX9_sent_18 (by decide) (fun c_18 => ?_) (fun c_18 => ?_)
    · replace hwp := hwp.1 c_18
      refine lv_iload_n hx hb dX9_sent_23 rfl (lv_at hl 1 rfl) ?_
      refine lv_iconst (v := 0) hx hb dX9_sent_24 (by decide) ?_
      refine lv_aload_n hx hb dX9_sent_25 rfl (lv_at hl 0 rfl) ?_
      refine va_get (D := (dC, dI)) (ci := 9) (v := .int (sI s3 1036 0)) (C := RX9) (T := TX9) (N := 43) hx hb hts iX9_sent_9 hown hK hP 0 atModel rfl 36 (by decide) (hts (.fieldLink RX9 201 "LinkQueuesModel" "sentSize" "I") (by decide +kernel)) (fun _ h9 => h9) rfl dX9_sent_26 ?_
      refine lv_iconst (v := 1) hx hb dX9_sent_29 (by decide) ?_
      refine lv_isub hx hb dX9_sent_30 ?_
      have hF := fA hD hS hA
      refine va_calli (va_runS (As := [.int a1, .int 0, .int ((sI s3 1036 0) - 1)]) (rest := []) ⟨hx, hb, hml, hown, hts⟩ (c_X9_isIn l dC dI cA ad s3 a1 0 ((sI s3 1036 0) - 1) H.size _ hwp) (cwS 3 hts gX9_sent_X9_isIn rfl rfl rfl (by decide +kernel) ⟨Nat.le_of_ble_eq_true rfl, Nat.le_of_ble_eq_true rfl⟩) ⟨fbC, fun U hU hW => ⟨rfl, by rw [hU], by rw [hU]; exact hP, va_K.moved hW.alike hK, hD.weaken (fun _ _ _ _ => trivial)⟩⟩ rfl rfl hl.1 rfl (lv_room (Nat.le_of_ble_eq_true rfl)) dX9_sent_31 ⟨hkc, hks⟩) hS (fun q _ h => hF q h) hF (fun r6 s5 t H1 locs ht hvm hwp hB hz1 hk1 hS => ?_)
      obtain ⟨hP1, hK1, hD1⟩ := hB
      rw [ht] at hP1
      have hD2 := hD1.weaken (fun _ q _ h => hF q.1 h)
      clear hP hD
      have hP := hP1
      have hD := hD2
      clear hP1 hD1 hD2 hK1 hk1 hz1 hF
      generalize H1 = H at hP hS ⊢
      refine lv_if_eq (tgt := 50) hx hb dX9_sent_34 (by decide) (fun c_34 => ?_) (fun c_34 => ?_)
      · replace hwp := hwp.1 c_34
        refine lv_iconst (v := (-1)) hx hb dX9_sent_50 (by decide) ?_
        exact W.iret (v := (-1)) hx hb hr (fun t ht hW => ⟨⟨(-1), s5, rfl, hwp, by rw [ht]; exact hP, va_K.moved hW.alike hK, hD⟩, hS.F ht⟩) hS.2.2 dX9_sent_51
      · replace hwp := hwp.2 c_34
        refine lv_aload_n hx hb dX9_sent_37 rfl (lv_at hl 0 rfl) ?_
        refine va_get (D := (dC, dI)) (ci := 9) (v := .ref (ad 137 0)) (C := RX9) (T := TX9) (N := 43) hx hb hts iX9_sent_9 hown hK hP 0 atModel rfl 37 (by decide) (hts (.fieldLink RX9 104 "LinkQueuesModel" "sentOf" "[I") (by decide +kernel)) (fun _ h9 => h9) rfl dX9_sent_38 ?_
        refine lv_iconst (v := 5) hx hb dX9_sent_41 (by decide) ?_
        refine lv_iload_n hx hb dX9_sent_42 rfl (lv_at hl 1 rfl) ?_
        refine lv_imul hx hb dX9_sent_43 ?_
        refine lv_iload_n hx hb dX9_sent_44 rfl (lv_at hl 2 rfl) ?_
        refine lv_iadd hx hb dX9_sent_45 ?_
        obtain ⟨hi_7, hwp⟩ := hwp
        refine va_iald (D := (dC, dI)) hx hb hK hP 28 1 atm37 rfl hi_7 dX9_sent_46 ?_
        refine lv_goto (tgt := 51) hx hb dX9_sent_47 (by decide) ?_
        exact W.iret (v := (sI s5 1037 ((5 * a1) + a2).toNatClampNeg)) hx hb hr (fun t ht hW => ⟨⟨(sI s5 1037 ((5 * a1) + a2).toNatClampNeg), s5, rfl, hwp, by rw [ht]; exact hP, va_K.moved hW.alike hK, hD⟩, hS.F ht⟩) hS.2.2 dX9_sent_51
    · replace hwp := hwp.2 c_18
      refine lv_iconst (v := 0) hx hb dX9_sent_21 (by decide) ?_
      exact W.iret (v := 0) hx hb hr (fun t ht hW => ⟨⟨0, s3, rfl, hwp, by rw [ht]; exact hP, va_K.moved hW.alike hK, hD⟩, hS.F ht⟩) hS.2.2 dX9_sent_22
  refine lv_if_eq (tgt := 14) hx hb dX9_sent_7 (by decide) (fun c_7 => ?_) (fun c_7 => ?_)
  · replace hwp := hwp.1 c_7
    refine lv_iconst (v := 1) hx hb dX9_sent_14 (by decide) ?_
    exact J15 s1 1 hwp _ _ _ hP hD hS (lv_sub hl [0, 1, 2] rfl)
  · replace hwp := hwp.2 c_7
    refine lv_iconst (v := 0) hx hb dX9_sent_10 (by decide) ?_
    refine lv_goto (tgt := 15) hx hb dX9_sent_11 (by decide) ?_
    exact J15 s1 0 hwp _ _ _ hP hD hS (lv_sub hl [0, 1, 2] rfl)
def wp_X9_round (σ : ST) (a1 : Int32) (K : Int32 → ST → Prop) : Prop := ∀ s1, s1 = upI σ 1000 0 0 →
wp_X9_isIn s1 a1 0 ((sI s1 1030 0) - 1) (fun r3 s2 =>
((r3 = 0 → (K (-1) s2)) ∧ (¬ (r3 = 0) → (vp_in a1 6 ∧
K (sI s2 1031 a1.toNatClampNeg) s2)))
)
set_option maxRecDepth 20000 in
theorem iX9_round_9 : ∀ w ∈ wsX90, w ∈ wsX9_round := by decide +kernel
set_option maxHeartbeats 8000000 in
set_option maxRecDepth 100000 in
theorem c_X9_round (l : Launch) (dC : Nat → ClassId) (dI : Nat → Nat → Nat) (cA : Nat → ClassId) (ad : Nat → Nat → Nat) (σ : ST) (a1 : Int32) (sz : Nat) (K : Int32 → ST → Prop) (hwp : wp_X9_round σ a1 K) : Met l yX9_round wsX9_round ({ frames := 1, cells := 0, slots := 0, locals := 22 } : Room) (va_Pc [.ref (ad 9 0), .int a1] (preC dC dI cA (Wm cA ad σ) sz)) (va_Qi K (atC dC dI cA (Wm cA ad) (va_A (Wm cA ad σ) sz)) (va_A (Wm cA ad σ) sz)) 0 0 (va_A (Wm cA ad σ) sz) := by
  refine Met.ofW (cc := cX9_round) (maxL := 2) (ret := (some .int)) (by decide) rfl ?_
  intro p e s m args below meth c s₁ B hml hv
  obtain ⟨rfl, hsz, hP, hK, hD0⟩ := hv
  have hx := B.exec
  have hb := B.bytes
  have hr := B.returns
  have hts := atoms_spec (ws := wsX9_round) B.pre
  have hown : s.vm.findClass RX9 = some m.cls := findClass_of_methodNamed B.named
  have hlocks := B.notSynchronized
  subst hsz
  have hD := hD0.self (sz := s.heap.size)
  clear hD0
  generalize hAe : va_A (Wm cA ad σ) s.heap.size = A at hD ⊢
  have hA : ∀ q : Nat, s.heap.size ≤ q → A q := fun q h => by rw [← hAe]; exact Or.inr h
  have hS : va_S A s.heap s.heap [] := va_S.rf
  have hkc : 0 ≤ 0 := Nat.le_refl 0
  have hks : 0 ≤ 0 := Nat.le_refl 0
  have hl := lv_entry ([.ref (ad 9 0), .int a1]) (n := 2) (Nat.le_of_ble_eq_true rfl)
  rw [lg_entry_eq]
  generalize (lg_sl ([.ref (ad 9 0), .int a1]) ++ List.replicate (2 - (lg_sl ([.ref (ad 9 0), .int a1])).length) Slot.unset).toArray = ls at hl ⊢
  have hl : lv_has ls 2 [(0, .ref (ad 9 0)), (1, .int a1)] := hl
  unfold wp_X9_round at hwp
  generalize hHe : s.heap = H at hP ⊢
  have hS : va_S A s.heap H [] := by rw [← hHe]; exact va_S.rf
  clear hHe
  refine lv_aload_n hx hb dX9_round_0 rfl (lv_at hl 0 rfl) ?_
  refine lv_iconst (v := 0) hx hb dX9_round_1 (by decide) ?_
  obtain ⟨s1, e_s1⟩ : ∃ z, z = upI σ 1000 0 0 := ⟨_, rfl⟩
  refine st_put (D := (dC, dI)) (ci := 9) (v := .int 0) (ty := .int) (C := RX9) (T := TX9) (N := 43) (ws' := Wm cA ad s1) hx hb hts iX9_round_9 tyX9 tyX9_ok nmX9 hown hK hP hD hS 0 atModel rfl 0 (by decide) (hts (.fieldLink RX9 115 "LinkQueuesModel" "refusal" "I") (by decide +kernel)) (fun _ h9 => h9) rfl (by decide +kernel) rfl rfl (Nat.le_of_ble_eq_true rfl) dX9_round_2 (by rw [e_s1]; exact stM_0 0) (fun H locs hP hD hS => ?_)
  replace hwp := hwp s1 e_s1
  refine lv_iload_n hx hb dX9_round_5 rfl (lv_at hl 1 rfl) ?_
  refine lv_iconst (v := 0) hx hb dX9_round_6 (by decide) ?_
  refine lv_aload_n hx hb dX9_round_7 rfl (lv_at hl 0 rfl) ?_
  refine va_get (D := (dC, dI)) (ci := 9) (v := .int (sI s1 1030 0)) (C := RX9) (T := TX9) (N := 43) hx hb hts iX9_round_9 hown hK hP 0 atModel rfl 30 (by decide) (hts (.fieldLink RX9 158 "LinkQueuesModel" "roundSize" "I") (by decide +kernel)) (fun _ h9 => h9) rfl dX9_round_8 ?_
  refine lv_iconst (v := 1) hx hb dX9_round_11 (by decide) ?_
  refine lv_isub hx hb dX9_round_12 ?_
  have hF := fA hD hS hA
  refine va_calli (va_runS (As := [.int a1, .int 0, .int ((sI s1 1030 0) - 1)]) (rest := []) ⟨hx, hb, hml, hown, hts⟩ (c_X9_isIn l dC dI cA ad s1 a1 0 ((sI s1 1030 0) - 1) H.size _ hwp) (cwS 3 hts gX9_round_X9_isIn rfl rfl rfl (by decide +kernel) ⟨Nat.le_of_ble_eq_true rfl, Nat.le_of_ble_eq_true rfl⟩) ⟨fbC, fun U hU hW => ⟨rfl, by rw [hU], by rw [hU]; exact hP, va_K.moved hW.alike hK, hD.weaken (fun _ _ _ _ => trivial)⟩⟩ rfl rfl hl.1 rfl (lv_room (Nat.le_of_ble_eq_true rfl)) dX9_round_13 ⟨hkc, hks⟩) hS (fun q _ h => hF q h) hF (fun r3 s2 t H1 locs ht hvm hwp hB hz1 hk1 hS => ?_)
  obtain ⟨hP1, hK1, hD1⟩ := hB
  rw [ht] at hP1
  have hD2 := hD1.weaken (fun _ q _ h => hF q.1 h)
  clear hP hD
  have hP := hP1
  have hD := hD2
  clear hP1 hD1 hD2 hK1 hk1 hz1 hF
  generalize H1 = H at hP hS ⊢
  refine lv_if_eq (tgt := 28) hx hb dX9_round_16 (by decide) (fun c_16 => ?_) (fun c_16 => ?_)
  · replace hwp := hwp.1 c_16
    refine lv_iconst (v := (-1)) hx hb dX9_round_28 (by decide) ?_
    exact W.iret (v := (-1)) hx hb hr (fun t ht hW => ⟨⟨(-1), s2, rfl, hwp, by rw [ht]; exact hP, va_K.moved hW.alike hK, hD⟩, hS.F ht⟩) hS.2.2 dX9_round_29
  · replace hwp := hwp.2 c_16
    refine lv_aload_n hx hb dX9_round_19 rfl (lv_at hl 0 rfl) ?_
    refine va_get (D := (dC, dI)) (ci := 9) (v := .ref (ad 131 0)) (C := RX9) (T := TX9) (N := 43) hx hb hts iX9_round_9 hown hK hP 0 atModel rfl 31 (by decide) (hts (.fieldLink RX9 95 "LinkQueuesModel" "round" "[I") (by decide +kernel)) (fun _ h9 => h9) rfl dX9_round_20 ?_
    refine lv_iload_n hx hb dX9_round_23 rfl (lv_at hl 1 rfl) ?_
    obtain ⟨hi_4, hwp⟩ := hwp
    refine va_iald (D := (dC, dI)) hx hb hK hP 25 1 atm31 rfl hi_4 dX9_round_24 ?_
    refine lv_goto (tgt := 29) hx hb dX9_round_25 (by decide) ?_
    exact W.iret (v := (sI s2 1031 a1.toNatClampNeg)) hx hb hr (fun t ht hW => ⟨⟨(sI s2 1031 a1.toNatClampNeg), s2, rfl, hwp, by rw [ht]; exact hP, va_K.moved hW.alike hK, hD⟩, hS.F ht⟩) hS.2.2 dX9_round_29
def wp_X9_clock (σ : ST) (K : Int32 → ST → Prop) : Prop := ∀ s1, s1 = upI σ 1000 0 0 →
K (sI s1 1001 0) s1
set_option maxRecDepth 20000 in
theorem iX9_clock_9 : ∀ w ∈ wsX90, w ∈ wsX9_clock := by decide +kernel
set_option maxHeartbeats 8000000 in
set_option maxRecDepth 100000 in
theorem c_X9_clock (l : Launch) (dC : Nat → ClassId) (dI : Nat → Nat → Nat) (cA : Nat → ClassId) (ad : Nat → Nat → Nat) (σ : ST) (sz : Nat) (K : Int32 → ST → Prop) (hwp : wp_X9_clock σ K) : Met l yX9_clock wsX9_clock ({ frames := 0, cells := 0, slots := 0, locals := 0 } : Room) (va_Pc [.ref (ad 9 0)] (preC dC dI cA (Wm cA ad σ) sz)) (va_Qi K (atC dC dI cA (Wm cA ad) (va_A (Wm cA ad σ) sz)) (va_A (Wm cA ad σ) sz)) 0 0 (va_A (Wm cA ad σ) sz) := by
  refine Met.ofW (cc := cX9_clock) (maxL := 1) (ret := (some .int)) (by decide) rfl ?_
  intro p e s m args below meth c s₁ B hml hv
  obtain ⟨rfl, hsz, hP, hK, hD0⟩ := hv
  have hx := B.exec
  have hb := B.bytes
  have hr := B.returns
  have hts := atoms_spec (ws := wsX9_clock) B.pre
  have hown : s.vm.findClass RX9 = some m.cls := findClass_of_methodNamed B.named
  have hlocks := B.notSynchronized
  subst hsz
  have hD := hD0.self (sz := s.heap.size)
  clear hD0
  generalize hAe : va_A (Wm cA ad σ) s.heap.size = A at hD ⊢
  have hA : ∀ q : Nat, s.heap.size ≤ q → A q := fun q h => by rw [← hAe]; exact Or.inr h
  have hS : va_S A s.heap s.heap [] := va_S.rf
  have hkc : 0 ≤ 0 := Nat.le_refl 0
  have hks : 0 ≤ 0 := Nat.le_refl 0
  have hl := lv_entry ([.ref (ad 9 0)]) (n := 1) (Nat.le_of_ble_eq_true rfl)
  rw [lg_entry_eq]
  generalize (lg_sl ([.ref (ad 9 0)]) ++ List.replicate (1 - (lg_sl ([.ref (ad 9 0)])).length) Slot.unset).toArray = ls at hl ⊢
  have hl : lv_has ls 1 [(0, .ref (ad 9 0))] := hl
  unfold wp_X9_clock at hwp
  generalize hHe : s.heap = H at hP ⊢
  have hS : va_S A s.heap H [] := by rw [← hHe]; exact va_S.rf
  clear hHe
  refine lv_aload_n hx hb dX9_clock_0 rfl (lv_at hl 0 rfl) ?_
  refine lv_iconst (v := 0) hx hb dX9_clock_1 (by decide) ?_
  obtain ⟨s1, e_s1⟩ : ∃ z, z = upI σ 1000 0 0 := ⟨_, rfl⟩
  refine st_put (D := (dC, dI)) (ci := 9) (v := .int 0) (ty := .int) (C := RX9) (T := TX9) (N := 43) (ws' := Wm cA ad s1) hx hb hts iX9_clock_9 tyX9 tyX9_ok nmX9 hown hK hP hD hS 0 atModel rfl 0 (by decide) (hts (.fieldLink RX9 115 "LinkQueuesModel" "refusal" "I") (by decide +kernel)) (fun _ h9 => h9) rfl (by decide +kernel) rfl rfl (Nat.le_of_ble_eq_true rfl) dX9_clock_2 (by rw [e_s1]; exact stM_0 0) (fun H locs hP hD hS => ?_)
  replace hwp := hwp s1 e_s1
  refine lv_aload_n hx hb dX9_clock_5 rfl (lv_at hl 0 rfl) ?_
  refine va_get (D := (dC, dI)) (ci := 9) (v := .int (sI s1 1001 0)) (C := RX9) (T := TX9) (N := 43) hx hb hts iX9_clock_9 hown hK hP 0 atModel rfl 1 (by decide) (hts (.fieldLink RX9 126 "LinkQueuesModel" "now" "I") (by decide +kernel)) (fun _ h9 => h9) rfl dX9_clock_6 ?_
  exact W.iret (v := (sI s1 1001 0)) hx hb hr (fun t ht hW => ⟨⟨(sI s1 1001 0), s1, rfl, hwp, by rw [ht]; exact hP, va_K.moved hW.alike hK, hD⟩, hS.F ht⟩) hS.2.2 dX9_clock_9
