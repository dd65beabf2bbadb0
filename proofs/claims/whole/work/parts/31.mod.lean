def wp_X9_look_J255 (a1 : Int32) (K : Int32 → ST → Prop) (z255 : ST) (y0_255 : Int32) : Prop := ((y0_255 = 0 → (((y0_255 = 0 → (K 0 z255)) ∧ (¬ (y0_255 = 0) → (K 2 z255))))) ∧ (¬ (y0_255 = 0) → (vp_in a1 6 ∧
∀ s16, s16 = upI z255 1013 a1.toNatClampNeg 0 →
((y0_255 = 0 → (K 0 s16)) ∧ (¬ (y0_255 = 0) → (K 2 s16))))))
def wp_X9_look_J250 (a1 : Int32) (K : Int32 → ST → Prop) (G255 : ST → Int32 → Prop) (z250 : ST) : Prop := G255 z250 1
def wp_X9_look_J123 (a1 : Int32) (K : Int32 → ST → Prop) (z123 : ST) : Prop := vp_in a1 6 ∧
vp_in a1 6 ∧
((0 ≤ (Op.cmpValue (FP.dcmp (sD z123 1012 a1.toNatClampNeg) (sD z123 1008 a1.toNatClampNeg)) .g) → (vp_in a1 6 ∧
vp_in a1 6 ∧
(((Op.cmpValue (FP.dcmp (sD z123 1012 a1.toNatClampNeg) (sD z123 1009 a1.toNatClampNeg)) .l) < 0 → (vp_in a1 6 ∧
vp_in a1 6 ∧
∀ s8, s8 = upI z123 1013 a1.toNatClampNeg ((sI z123 1013 a1.toNatClampNeg) + 1) →
vp_in a1 6 ∧
vp_in a1 6 ∧
vp_in a1 6 ∧
vf_n64 (FP.dsub (sD s8 1012 a1.toNatClampNeg) (sD s8 1008 a1.toNatClampNeg)) ∧
vf_n64 (FP.dmul (sD s8 1010 a1.toNatClampNeg) (FP.dsub (sD s8 1012 a1.toNatClampNeg) (sD s8 1008 a1.toNatClampNeg))) ∧
vp_in a1 6 ∧
vp_in a1 6 ∧
vf_n64 (FP.dsub (sD s8 1009 a1.toNatClampNeg) (sD s8 1008 a1.toNatClampNeg)) ∧
vf_n64 (FP.ddiv (FP.dmul (sD s8 1010 a1.toNatClampNeg) (FP.dsub (sD s8 1012 a1.toNatClampNeg) (sD s8 1008 a1.toNatClampNeg))) (FP.dsub (sD s8 1009 a1.toNatClampNeg) (sD s8 1008 a1.toNatClampNeg))) ∧
vp_in a1 6 ∧
vf_n64 (FP.dmul (FP.i2d (sI s8 1013 a1.toNatClampNeg)) (FP.ddiv (FP.dmul (sD s8 1010 a1.toNatClampNeg) (FP.dsub (sD s8 1012 a1.toNatClampNeg) (sD s8 1008 a1.toNatClampNeg))) (FP.dsub (sD s8 1009 a1.toNatClampNeg) (sD s8 1008 a1.toNatClampNeg)))) ∧
vf_n64 (FP.dsub FP.dconst1 (FP.dmul (FP.i2d (sI s8 1013 a1.toNatClampNeg)) (FP.ddiv (FP.dmul (sD s8 1010 a1.toNatClampNeg) (FP.dsub (sD s8 1012 a1.toNatClampNeg) (sD s8 1008 a1.toNatClampNeg))) (FP.dsub (sD s8 1009 a1.toNatClampNeg) (sD s8 1008 a1.toNatClampNeg))))) ∧
(((Op.cmpValue (FP.dcmp (FP.dsub FP.dconst1 (FP.dmul (FP.i2d (sI s8 1013 a1.toNatClampNeg)) (FP.ddiv (FP.dmul (sD s8 1010 a1.toNatClampNeg) (FP.dsub (sD s8 1012 a1.toNatClampNeg) (sD s8 1008 a1.toNatClampNeg))) (FP.dsub (sD s8 1009 a1.toNatClampNeg) (sD s8 1008 a1.toNatClampNeg))))) FP.dconst0) .l) ≤ 0 → (wp_X9_look_J250 a1 K (wp_X9_look_J255 a1 K) s8)) ∧ (¬ ((Op.cmpValue (FP.dcmp (FP.dsub FP.dconst1 (FP.dmul (FP.i2d (sI s8 1013 a1.toNatClampNeg)) (FP.ddiv (FP.dmul (sD s8 1010 a1.toNatClampNeg) (FP.dsub (sD s8 1012 a1.toNatClampNeg) (sD s8 1008 a1.toNatClampNeg))) (FP.dsub (sD s8 1009 a1.toNatClampNeg) (sD s8 1008 a1.toNatClampNeg))))) FP.dconst0) .l) ≤ 0) → (wp_X9_useCoin s8 (fun r18 s17 =>
vf_n64 (FP.ddiv (FP.ddiv (FP.dmul (sD s8 1010 a1.toNatClampNeg) (FP.dsub (sD s8 1012 a1.toNatClampNeg) (sD s8 1008 a1.toNatClampNeg))) (FP.dsub (sD s8 1009 a1.toNatClampNeg) (sD s8 1008 a1.toNatClampNeg))) (FP.dsub FP.dconst1 (FP.dmul (FP.i2d (sI s8 1013 a1.toNatClampNeg)) (FP.ddiv (FP.dmul (sD s8 1010 a1.toNatClampNeg) (FP.dsub (sD s8 1012 a1.toNatClampNeg) (sD s8 1008 a1.toNatClampNeg))) (FP.dsub (sD s8 1009 a1.toNatClampNeg) (sD s8 1008 a1.toNatClampNeg)))))) ∧
((0 ≤ (Op.cmpValue (FP.dcmp r18 (FP.ddiv (FP.ddiv (FP.dmul (sD s8 1010 a1.toNatClampNeg) (FP.dsub (sD s8 1012 a1.toNatClampNeg) (sD s8 1008 a1.toNatClampNeg))) (FP.dsub (sD s8 1009 a1.toNatClampNeg) (sD s8 1008 a1.toNatClampNeg))) (FP.dsub FP.dconst1 (FP.dmul (FP.i2d (sI s8 1013 a1.toNatClampNeg)) (FP.ddiv (FP.dmul (sD s8 1010 a1.toNatClampNeg) (FP.dsub (sD s8 1012 a1.toNatClampNeg) (sD s8 1008 a1.toNatClampNeg))) (FP.dsub (sD s8 1009 a1.toNatClampNeg) (sD s8 1008 a1.toNatClampNeg))))))) .g) → (wp_X9_look_J255 a1 K s17 0)) ∧ (¬ (0 ≤ (Op.cmpValue (FP.dcmp r18 (FP.ddiv (FP.ddiv (FP.dmul (sD s8 1010 a1.toNatClampNeg) (FP.dsub (sD s8 1012 a1.toNatClampNeg) (sD s8 1008 a1.toNatClampNeg))) (FP.dsub (sD s8 1009 a1.toNatClampNeg) (sD s8 1008 a1.toNatClampNeg))) (FP.dsub FP.dconst1 (FP.dmul (FP.i2d (sI s8 1013 a1.toNatClampNeg)) (FP.ddiv (FP.dmul (sD s8 1010 a1.toNatClampNeg) (FP.dsub (sD s8 1012 a1.toNatClampNeg) (sD s8 1008 a1.toNatClampNeg))) (FP.dsub (sD s8 1009 a1.toNatClampNeg) (sD s8 1008 a1.toNatClampNeg))))))) .g)) → (wp_X9_look_J250 a1 K (wp_X9_look_J255 a1 K) s17)))
)))))) ∧ (¬ ((Op.cmpValue (FP.dcmp (sD z123 1012 a1.toNatClampNeg) (sD z123 1009 a1.toNatClampNeg)) .l) < 0) → (vp_in a1 6 ∧
∀ s20, s20 = upI z123 1013 a1.toNatClampNeg 0 →
K 1 s20))))) ∧ (¬ (0 ≤ (Op.cmpValue (FP.dcmp (sD z123 1012 a1.toNatClampNeg) (sD z123 1008 a1.toNatClampNeg)) .g)) → (vp_in a1 6 ∧
∀ s22, s22 = upI z123 1013 a1.toNatClampNeg (-1) →
K 0 s22)))
def wp_X9_look_L44 (a1 : Int32) (y0_41 : Int32) (K : Int32 → ST → Prop) (G123 : ST → Prop) : Nat → ST → Int32 → Prop
  | 0 => fun _ _ => False
  | fu44 + 1 => fun z44 x3_44 => ((y0_41 ≤ x3_44 → (vp_in a1 6 ∧
∀ s31, s31 = upI z44 1014 a1.toNatClampNeg (sI z44 1001 0) →
G123 s31)) ∧ (¬ (y0_41 ≤ x3_44) → (vp_in a1 6 ∧
vp_in a1 6 ∧
vf_n64 (FP.dsub FP.dconst1 (sD z44 1011 a1.toNatClampNeg)) ∧
vf_n64 (FP.dmul (sD z44 1012 a1.toNatClampNeg) (FP.dsub FP.dconst1 (sD z44 1011 a1.toNatClampNeg))) ∧
vp_in a1 6 ∧
∀ s35, s35 = upD z44 1012 a1.toNatClampNeg (FP.dmul (sD z44 1012 a1.toNatClampNeg) (FP.dsub FP.dconst1 (sD z44 1011 a1.toNatClampNeg))) →
wp_X9_look_L44 a1 y0_41 K G123 fu44 s35 (x3_44 + 1))))
def wp_X9_look_J41 (a1 : Int32) (K : Int32 → ST → Prop) (G123 : ST → Prop) (z41 : ST) (y0_41 : Int32) : Prop := ∃ n44, wp_X9_look_L44 a1 y0_41 K (G123) n44 z41 0
def wp_X9_look (σ : ST) (a1 : Int32) (K : Int32 → ST → Prop) : Prop := vp_in a1 6 ∧
((¬ (sI σ 1023 a1.toNatClampNeg) = 0 → (vp_in a1 6 ∧
vp_in a1 6 ∧
vp_in a1 6 ∧
vp_in a1 6 ∧
vf_n64 (FP.dsub (FP.i2d (sI σ 1023 a1.toNatClampNeg)) (sD σ 1012 a1.toNatClampNeg)) ∧
vf_n64 (FP.dmul (sD σ 1011 a1.toNatClampNeg) (FP.dsub (FP.i2d (sI σ 1023 a1.toNatClampNeg)) (sD σ 1012 a1.toNatClampNeg))) ∧
vf_n64 (FP.dadd (sD σ 1012 a1.toNatClampNeg) (FP.dmul (sD σ 1011 a1.toNatClampNeg) (FP.dsub (FP.i2d (sI σ 1023 a1.toNatClampNeg)) (sD σ 1012 a1.toNatClampNeg)))) ∧
vp_in a1 6 ∧
∀ s28, s28 = upD σ 1012 a1.toNatClampNeg (FP.dadd (sD σ 1012 a1.toNatClampNeg) (FP.dmul (sD σ 1011 a1.toNatClampNeg) (FP.dsub (FP.i2d (sI σ 1023 a1.toNatClampNeg)) (sD σ 1012 a1.toNatClampNeg)))) →
wp_X9_look_J123 a1 K s28)) ∧ ((sI σ 1023 a1.toNatClampNeg) = 0 → (vp_in a1 6 ∧
((100 ≤ ((sI σ 1001 0) - (sI σ 1014 a1.toNatClampNeg)) → (wp_X9_look_J41 a1 K (wp_X9_look_J123 a1 K) σ 100)) ∧ (¬ (100 ≤ ((sI σ 1001 0) - (sI σ 1014 a1.toNatClampNeg))) → (vp_in a1 6 ∧
wp_X9_look_J41 a1 K (wp_X9_look_J123 a1 K) σ ((sI σ 1001 0) - (sI σ 1014 a1.toNatClampNeg))))))))
set_option maxRecDepth 20000 in
theorem iX9_look_9 : ∀ w ∈ wsX90, w ∈ wsX9_look := by decide +kernel
set_option maxHeartbeats 8000000 in
set_option maxRecDepth 100000 in
theorem c_X9_look (l : Launch) (dC : Nat → ClassId) (dI : Nat → Nat → Nat) (cA : Nat → ClassId) (ad : Nat → Nat → Nat) (σ : ST) (a1 : Int32) (sz : Nat) (K : Int32 → ST → Prop) (hwp : wp_X9_look σ a1 K) : Met l yX9_look wsX9_look ({ frames := 1, cells := 0, slots := 0, locals := 23 } : Room) (va_Pc [.ref (ad 9 0), .int a1] (preC dC dI cA (Wm cA ad σ) sz)) (va_Qi K (atC dC dI cA (Wm cA ad) (va_A (Wm cA ad σ) sz)) (va_A (Wm cA ad σ) sz)) 0 0 (va_A (Wm cA ad σ) sz) := by
  refine Met.ofW (cc := cX9_look) (maxL := 7) (ret := (some .int)) (by decide) rfl ?_
  intro p e s m args below meth c s₁ B hml hv
  obtain ⟨rfl, hsz, hP, hK, hD0⟩ := hv
  have hx := B.exec
  have hb := B.bytes
  have hr := B.returns
  have hts := atoms_spec (ws := wsX9_look) B.pre
  have hown : s.vm.findClass RX9 = some m.cls := findClass_of_methodNamed B.named
  have hlocks := B.notSynchronized
  subst hsz
  have hD := hD0.self (sz := s.heap.size)
  clear hD0
  generalize hAe : va_A (Wm cA ad σ) s.heap.size = A at hD ⊢
  have hA : ∀ q : Nat, s.heap.size ≤ q → A q := fun q h => by rw [← hAe]; exact Or.inr h
  have hS : va_S A s.heap s.heap [] := va_S.rf
  have hkc : 0 ≤ 0 := Nat.le_refl 0
  have hks : 0 ≤ 0 := Nat.le_refl 0
  have hl := lv_entry ([.ref (ad 9 0), .int a1]) (n := 7) (Nat.le_of_ble_eq_true rfl)
  rw [lg_entry_eq]
  generalize (lg_sl ([.ref (ad 9 0), .int a1]) ++ List.replicate (7 - (lg_sl ([.ref (ad 9 0), .int a1])).length) Slot.unset).toArray = ls at hl ⊢
  have hl : lv_has ls 7 [(0, .ref (ad 9 0)), (1, .int a1)] := hl
  unfold wp_X9_look at hwp
  generalize hHe : s.heap = H at hP ⊢
  have hS : va_S A s.heap H [] := by rw [← hHe]; exact va_S.rf
  clear hHe
  refine lv_aload_n hx hb dX9_look_0 rfl (lv_at hl 0 rfl) ?_
  refine va_get (D := (dC, dI)) (ci := 9) (v := .ref (ad 123 0)) (C := RX9) (T := TX9) (N := 43) hx hb hts iX9_look_9 hown hK hP 0 atModel rfl 23 (by decide) (hts (.fieldLink RX9 74 "LinkQueuesModel" "sizes" "[I") (by decide +kernel)) (fun _ h9 => h9) rfl dX9_look_1 ?_
  refine lv_iload_n hx hb dX9_look_4 rfl (lv_at hl 1 rfl) ?_
  obtain ⟨hi_1, hwp⟩ := hwp
  refine va_iald (D := (dC, dI)) hx hb hK hP 18 1 atm23 rfl hi_1 dX9_look_5 ?_
  have J123 : ∀ (z123 : ST), wp_X9_look_J123 a1 K z123 → ∀ (H : Heap) (locs : List Loc) (ls : Array Slot), va_P (dC, dI) vwCl (Wm cA ad z123) H → va_D A (Wm cA ad z123) → va_S A s.heap H locs → lv_has ls 7 [(0, .ref (ad 9 0)), (1, .int a1)] → W p l e ({ frames := 1, cells := 0, slots := 0, locals := 23 } : Room) s m ([.ref (ad 9 0), .int a1] : List Value).toArray below meth c H locs 0 0 (MQ below (va_Qi K (atC dC dI cA (Wm cA ad) A) A) ([.ref (ad 9 0), .int a1] : List Value).toArray s 0 0 A) (F0 m 123 ls []) := by
    intro z123 hwp H locs ls hP hD hS hl
    refine lv_aload_n hx hb dX9_look_123 rfl (lv_at hl 0 rfl) ?_
    refine va_get (D := (dC, dI)) (ci := 9) (v := .ref (ad 112 0)) (C := RX9) (T := TX9) (N := 43) hx hb hts iX9_look_9 hown hK hP 0 atModel rfl 12 (by decide) (hts (.fieldLink RX9 40 "LinkQueuesModel" "average" "[D") (by decide +kernel)) (fun _ h9 => h9) rfl dX9_look_124 ?_
    refine lv_iload_n hx hb dX9_look_127 rfl (lv_at hl 1 rfl) ?_
    obtain ⟨hi_2, hwp⟩ := hwp
    refine va_dald (D := (dC, dI)) hx hb hK hP 7 0 atm12 rfl hi_2 dX9_look_128 ?_
    refine lv_aload_n hx hb dX9_look_129 rfl (lv_at hl 0 rfl) ?_
    refine va_get (D := (dC, dI)) (ci := 9) (v := .ref (ad 108 0)) (C := RX9) (T := TX9) (N := 43) hx hb hts iX9_look_9 hown hK hP 0 atModel rfl 8 (by decide) (hts (.fieldLink RX9 27 "LinkQueuesModel" "low" "[D") (by decide +kernel)) (fun _ h9 => h9) rfl dX9_look_130 ?_
    refine lv_iload_n hx hb dX9_look_133 rfl (lv_at hl 1 rfl) ?_
    obtain ⟨hi_3, hwp⟩ := hwp
    refine va_dald (D := (dC, dI)) hx hb hK hP 3 0 atm8 rfl hi_3 dX9_look_134 ?_
    refine lv_dcmp hx hb dX9_look_135 ?_
    refine lv_if_ge (tgt := 148) hx hb dX9_look_136 (by decide) (fun c_136 => ?_) (fun c_136 => ?_)
    · replace hwp := hwp.1 c_136
      refine lv_aload_n hx hb dX9_look_148 rfl (lv_at hl 0 rfl) ?_
      refine va_get (D := (dC, dI)) (ci := 9) (v := .ref (ad 112 0)) (C := RX9) (T := TX9) (N := 43) hx hb hts iX9_look_9 hown hK hP 0 atModel rfl 12 (by decide) (hts (.fieldLink RX9 40 "LinkQueuesModel" "average" "[D") (by decide +kernel)) (fun _ h9 => h9) rfl dX9_look_149 ?_
      refine lv_iload_n hx hb dX9_look_152 rfl (lv_at hl 1 rfl) ?_
      obtain ⟨hi_4, hwp⟩ := hwp
      refine va_dald (D := (dC, dI)) hx hb hK hP 7 0 atm12 rfl hi_4 dX9_look_153 ?_
      refine lv_aload_n hx hb dX9_look_154 rfl (lv_at hl 0 rfl) ?_
      refine va_get (D := (dC, dI)) (ci := 9) (v := .ref (ad 109 0)) (C := RX9) (T := TX9) (N := 43) hx hb hts iX9_look_9 hown hK hP 0 atModel rfl 9 (by decide) (hts (.fieldLink RX9 31 "LinkQueuesModel" "high" "[D") (by decide +kernel)) (fun _ h9 => h9) rfl dX9_look_155 ?_
      refine lv_iload_n hx hb dX9_look_158 rfl (lv_at hl 1 rfl) ?_
      obtain ⟨hi_5, hwp⟩ := hwp
      refine va_dald (D := (dC, dI)) hx hb hK hP 4 0 atm9 rfl hi_5 dX9_look_159 ?_
      refine lv_dcmp hx hb dX9_look_160 ?_
      refine lv_if_lt (tgt := 173) hx hb dX9_look_161 (by decide) (fun c_161 => ?_) (fun c_161 => ?_)
      · replace hwp := hwp.1 c_161
        refine lv_aload_n hx hb dX9_look_173 rfl (lv_at hl 0 rfl) ?_
        refine va_get (D := (dC, dI)) (ci := 9) (v := .ref (ad 113 0)) (C := RX9) (T := TX9) (N := 43) hx hb hts iX9_look_9 hown hK hP 0 atModel rfl 13 (by decide) (hts (.fieldLink RX9 43 "LinkQueuesModel" "meanCount" "[I") (by decide +kernel)) (fun _ h9 => h9) rfl dX9_look_174 ?_
        refine lv_iload_n hx hb dX9_look_177 rfl (lv_at hl 1 rfl) ?_
        refine lv_dup2_11 hx hb dX9_look_178 rfl rfl ?_
        obtain ⟨hi_6, hwp⟩ := hwp
        refine va_iald (D := (dC, dI)) hx hb hK hP 8 1 atm13 rfl hi_6 dX9_look_179 ?_
        refine lv_iconst (v := 1) hx hb dX9_look_180 (by decide) ?_
        refine lv_iadd hx hb dX9_look_181 ?_
        obtain ⟨hi_7, hwp⟩ := hwp
        obtain ⟨s8, e_s8⟩ : ∃ z, z = upI z123 1013 a1.toNatClampNeg ((sI z123 1013 a1.toNatClampNeg) + 1) := ⟨_, rfl⟩
        refine va_iast (D := (dC, dI)) hx hb hK hP hD hS 8 1 atm13 rfl hi_7 dX9_look_182 (fun H locs hP hD hS => ?_)
        rw [stm13, ← e_s8] at hP hD
        replace hwp := hwp s8 e_s8
        refine lv_aload_n hx hb dX9_look_183 rfl (lv_at hl 0 rfl) ?_
        refine va_get (D := (dC, dI)) (ci := 9) (v := .ref (ad 110 0)) (C := RX9) (T := TX9) (N := 43) hx hb hts iX9_look_9 hown hK hP 0 atModel rfl 10 (by decide) (hts (.fieldLink RX9 34 "LinkQueuesModel" "top" "[D") (by decide +kernel)) (fun _ h9 => h9) rfl dX9_look_184 ?_
        refine lv_iload_n hx hb dX9_look_187 rfl (lv_at hl 1 rfl) ?_
        obtain ⟨hi_9, hwp⟩ := hwp
        refine va_dald (D := (dC, dI)) hx hb hK hP 5 0 atm10 rfl hi_9 dX9_look_188 ?_
        refine lv_aload_n hx hb dX9_look_189 rfl (lv_at hl 0 rfl) ?_
        refine va_get (D := (dC, dI)) (ci := 9) (v := .ref (ad 112 0)) (C := RX9) (T := TX9) (N := 43) hx hb hts iX9_look_9 hown hK hP 0 atModel rfl 12 (by decide) (hts (.fieldLink RX9 40 "LinkQueuesModel" "average" "[D") (by decide +kernel)) (fun _ h9 => h9) rfl dX9_look_190 ?_
        refine lv_iload_n hx hb dX9_look_193 rfl (lv_at hl 1 rfl) ?_
        obtain ⟨hi_10, hwp⟩ := hwp
        refine va_dald (D := (dC, dI)) hx hb hK hP 7 0 atm12 rfl hi_10 dX9_look_194 ?_
        refine lv_aload_n hx hb dX9_look_195 rfl (lv_at hl 0 rfl) ?_
        refine va_get (D := (dC, dI)) (ci := 9) (v := .ref (ad 108 0)) (C := RX9) (T := TX9) (N := 43) hx hb hts iX9_look_9 hown hK hP 0 atModel rfl 8 (by decide) (hts (.fieldLink RX9 27 "LinkQueuesModel" "low" "[D") (by decide +kernel)) (fun _ h9 => h9) rfl dX9_look_196 ?_
        refine lv_iload_n hx hb dX9_look_199 rfl (lv_at hl 1 rfl) ?_
        obtain ⟨hi_11, hwp⟩ := hwp
        refine va_dald (D := (dC, dI)) hx hb hK hP 3 0 atm8 rfl hi_11 dX9_look_200 ?_
        refine lv_dsub hx hb dX9_look_201 hwp.1 ?_
        replace hwp := hwp.2
        refine lv_dmul hx hb dX9_look_202 hwp.1 ?_
        replace hwp := hwp.2
        refine lv_aload_n hx hb dX9_look_203 rfl (lv_at hl 0 rfl) ?_
        refine va_get (D := (dC, dI)) (ci := 9) (v := .ref (ad 109 0)) (C := RX9) (T := TX9) (N := 43) hx hb hts iX9_look_9 hown hK hP 0 atModel rfl 9 (by decide) (hts (.fieldLink RX9 31 "LinkQueuesModel" "high" "[D") (by decide +kernel)) (fun _ h9 => h9) rfl dX9_look_204 ?_
        refine lv_iload_n hx hb dX9_look_207 rfl (lv_at hl 1 rfl) ?_
        obtain ⟨hi_12, hwp⟩ := hwp
        refine va_dald (D := (dC, dI)) hx hb hK hP 4 0 atm9 rfl hi_12 dX9_look_208 ?_
        refine lv_aload_n hx hb dX9_look_209 rfl (lv_at hl 0 rfl) ?_
        refine va_get (D := (dC, dI)) (ci := 9) (v := .ref (ad 108 0)) (C := RX9) (T := TX9) (N := 43) hx hb hts iX9_look_9 hown hK hP 0 atModel rfl 8 (by decide) (hts (.fieldLink RX9 27 "LinkQueuesModel" "low" "[D") (by decide +kernel)) (fun _ h9 => h9) rfl dX9_look_210 ?_
        refine lv_iload_n hx hb dX9_look_213 rfl (lv_at hl 1 rfl) ?_
        obtain ⟨hi_13, hwp⟩ := hwp
        refine va_dald (D := (dC, dI)) hx hb hK hP 3 0 atm8 rfl hi_13 dX9_look_214 ?_
        refine lv_dsub hx hb dX9_look_215 hwp.1 ?_
        replace hwp := hwp.2
        refine lv_ddiv hx hb dX9_look_216 hwp.1 ?_
        replace hwp := hwp.2
        refine lv_dstore_n (lv' := [(2, .double (FP.ddiv (FP.dmul (sD s8 1010 a1.toNatClampNeg) (FP.dsub (sD s8 1012 a1.toNatClampNeg) (sD s8 1008 a1.toNatClampNeg))) (FP.dsub (sD s8 1009 a1.toNatClampNeg) (sD s8 1008 a1.toNatClampNeg)))), (0, .ref (ad 9 0)), (1, .int a1)]) hx hb dX9_look_217 rfl hl (by decide) rfl (fun ls hl => ?_)
        refine lv_dconst1 hx hb dX9_look_218 ?_
        refine lv_aload_n hx hb dX9_look_219 rfl (lv_at hl 1 rfl) ?_
        refine va_get (D := (dC, dI)) (ci := 9) (v := .ref (ad 113 0)) (C := RX9) (T := TX9) (N := 43) hx hb hts iX9_look_9 hown hK hP 0 atModel rfl 13 (by decide) (hts (.fieldLink RX9 43 "LinkQueuesModel" "meanCount" "[I") (by decide +kernel)) (fun _ h9 => h9) rfl dX9_look_220 ?_
        refine lv_iload_n hx hb dX9_look_223 rfl (lv_at hl 2 rfl) ?_
        obtain ⟨hi_14, hwp⟩ := hwp
        refine va_iald (D := (dC, dI)) hx hb hK hP 8 1 atm13 rfl hi_14 dX9_look_224 ?_
        refine lv_i2d hx hb dX9_look_225 ?_
        refine lv_dload_n hx hb dX9_look_226 rfl (lv_at hl 0 rfl) ?_
        refine lv_dmul hx hb dX9_look_227 hwp.1 ?_
        replace hwp := hwp.2
        refine lv_dsub hx hb dX9_look_228 hwp.1 ?_
        replace hwp := hwp.2
        refine lv_dstore (lv' := [(4, .double (FP.dsub FP.dconst1 (FP.dmul (FP.i2d (sI s8 1013 a1.toNatClampNeg)) (FP.ddiv (FP.dmul (sD s8 1010 a1.toNatClampNeg) (FP.dsub (sD s8 1012 a1.toNatClampNeg) (sD s8 1008 a1.toNatClampNeg))) (FP.dsub (sD s8 1009 a1.toNatClampNeg) (sD s8 1008 a1.toNatClampNeg)))))), (2, .double (FP.ddiv (FP.dmul (sD s8 1010 a1.toNatClampNeg) (FP.dsub (sD s8 1012 a1.toNatClampNeg) (sD s8 1008 a1.toNatClampNeg))) (FP.dsub (sD s8 1009 a1.toNatClampNeg) (sD s8 1008 a1.toNatClampNeg)))), (0, .ref (ad 9 0)), (1, .int a1)]) hx hb dX9_look_229 hl (by decide) rfl (fun ls hl => ?_)
        refine lv_dload hx hb dX9_look_231 (lv_at hl 0 rfl) ?_
        refine lv_dconst0 hx hb dX9_look_233 ?_
        refine lv_dcmp hx hb dX9_look_234 ?_
        have J255 : ∀ (z255 : ST) (y0_255 : Int32), wp_X9_look_J255 a1 K z255 y0_255 → ∀ (H : Heap) (locs : List Loc) (ls : Array Slot), va_P (dC, dI) vwCl (Wm cA ad z255) H → va_D A (Wm cA ad z255) → va_S A s.heap H locs → lv_has ls 7 [(0, .ref (ad 9 0)), (1, .int a1)] → W p l e ({ frames := 1, cells := 0, slots := 0, locals := 23 } : Room) s m ([.ref (ad 9 0), .int a1] : List Value).toArray below meth c H locs 0 0 (MQ below (va_Qi K (atC dC dI cA (Wm cA ad) A) A) ([.ref (ad 9 0), .int a1] : List Value).toArray s 0 0 A) (F0 m 255 ls [.int y0_255]) := by
          intro z255 y0_255 hwp H locs ls hP hD hS hl
          refine lv_istore (lv' := [(6, .int y0_255), (0, .ref (ad 9 0)), (1, .int a1)]) hx hb dX9_look_255 hl (by decide) rfl (fun ls hl => ?_)
          refine lv_iload hx hb dX9_look_257 (lv_at hl 0 rfl) ?_
          refine lv_if_eq (tgt := 269) hx hb dX9_look_259 (by decide) (fun c_259 => ?_) (fun c_259 => ?_)
          · replace hwp := hwp.1 c_259
            refine lv_iload hx hb dX9_look_269 (lv_at hl 0 rfl) ?_
            refine lv_if_eq (tgt := 278) hx hb dX9_look_271 (by decide) (fun c_271 => ?_) (fun c_271 => ?_)
            · replace hwp := hwp.1 c_271
              refine lv_iconst (v := 0) hx hb dX9_look_278 (by decide) ?_
              exact W.iret (v := 0) hx hb hr (fun t ht hW => ⟨⟨0, z255, rfl, hwp, by rw [ht]; exact hP, va_K.moved hW.alike hK, hD⟩, hS.F ht⟩) hS.2.2 dX9_look_279
            · replace hwp := hwp.2 c_271
              refine lv_iconst (v := 2) hx hb dX9_look_274 (by decide) ?_
              refine lv_goto (tgt := 279) hx hb dX9_look_275 (by decide) ?_
              exact W.iret (v := 2) hx hb hr (fun t ht hW => ⟨⟨2, z255, rfl, hwp, by rw [ht]; exact hP, va_K.moved hW.alike hK, hD⟩, hS.F ht⟩) hS.2.2 dX9_look_279
          · replace hwp := hwp.2 c_259
            refine lv_aload_n hx hb dX9_look_262 rfl (lv_at hl 1 rfl) ?_
            refine va_get (D := (dC, dI)) (ci := 9) (v := .ref (ad 113 0)) (C := RX9) (T := TX9) (N := 43) hx hb hts iX9_look_9 hown hK hP 0 atModel rfl 13 (by decide) (hts (.fieldLink RX9 43 "LinkQueuesModel" "meanCount" "[I") (by decide +kernel)) (fun _ h9 => h9) rfl dX9_look_263 ?_
            refine lv_iload_n hx hb dX9_look_266 rfl (lv_at hl 2 rfl) ?_
            refine lv_iconst (v := 0) hx hb dX9_look_267 (by decide) ?_
            obtain ⟨hi_15, hwp⟩ := hwp
            obtain ⟨s16, e_s16⟩ : ∃ z, z = upI z255 1013 a1.toNatClampNeg 0 := ⟨_, rfl⟩
            refine va_iast (D := (dC, dI)) hx hb hK hP hD hS 8 1 atm13 rfl hi_15 dX9_look_268 (fun H locs hP hD hS => ?_)
            rw [stm13, ← e_s16] at hP hD
            replace hwp := hwp s16 e_s16
            refine lv_iload hx hb dX9_look_269 (lv_at hl 0 rfl) ?_
            refine lv_if_eq (tgt := 278) hx hb dX9_look_271 (by decide) (fun c_271 => ?_) (fun c_271 => ?_)
            · replace hwp := hwp.1 c_271
              refine lv_iconst (v := 0) hx hb dX9_look_278 (by decide) ?_
              exact W.iret (v := 0) hx hb hr (fun t ht hW => ⟨⟨0, s16, rfl, hwp, by rw [ht]; exact hP, va_K.moved hW.alike hK, hD⟩, hS.F ht⟩) hS.2.2 dX9_look_279
            · replace hwp := hwp.2 c_271
              refine lv_iconst (v := 2) hx hb dX9_look_274 (by decide) ?_
              refine lv_goto (tgt := 279) hx hb dX9_look_275 (by decide) ?_
              exact W.iret (v := 2) hx hb hr (fun t ht hW => ⟨⟨2, s16, rfl, hwp, by rw [ht]; exact hP, va_K.moved hW.alike hK, hD⟩, hS.F ht⟩) hS.2.2 dX9_look_279
        have J250 : ∀ (z250 : ST), wp_X9_look_J250 a1 K (wp_X9_look_J255 a1 K) z250 → ∀ (H : Heap) (locs : List Loc) (ls : Array Slot), va_P (dC, dI) vwCl (Wm cA ad z250) H → va_D A (Wm cA ad z250) → va_S A s.heap H locs → lv_has ls 7 [(0, .ref (ad 9 0)), (1, .int a1)] → W p l e ({ frames := 1, cells := 0, slots := 0, locals := 23 } : Room) s m ([.ref (ad 9 0), .int a1] : List Value).toArray below meth c H locs 0 0 (MQ below (va_Qi K (atC dC dI cA (Wm cA ad) A) A) ([.ref (ad 9 0), .int a1] : List Value).toArray s 0 0 A) (F0 m 250 ls []) := by
          intro z250 hwp H locs ls hP hD hS hl
          refine lv_iconst (v := 1) hx hb dX9_look_250 (by decide) ?_
          refine lv_goto (tgt := 255) hx hb dX9_look_251 (by decide) ?_
          exact J255 z250 1 hwp _ _ _ hP hD hS (lv_sub hl [0, 1] rfl)
        refine lv_if_le (tgt := 250) hx hb dX9_look_235 (by decide) (fun c_235 => ?_) (fun c_235 => ?_)
        · replace hwp := hwp.1 c_235
          exact J250 s8 hwp _ _ _ hP hD hS (lv_sub hl [2, 3] rfl)
        · replace hwp := hwp.2 c_235
          refine lv_aload_n hx hb dX9_look_238 rfl (lv_at hl 2 rfl) ?_
          have hF := fA hD hS hA
          refine va_calld (va_runV (As := []) (rest := []) ⟨hx, hb, hml, hown, hts⟩ (c_X9_useCoin l dC dI cA ad s8 H.size _ hwp) (cwV 0 hts gX9_look_X9_useCoin rfl rfl rfl (by decide +kernel) ⟨Nat.le_of_ble_eq_true rfl, Nat.le_of_ble_eq_true rfl⟩) ⟨fbC, va_recv hK hP (ci := 9) (q0 := 0) rfl atModel, fun U hU hW => ⟨rfl, by rw [hU], by rw [hU]; exact hP, va_K.moved hW.alike hK, hD.weaken (fun _ _ _ _ => trivial)⟩⟩ rfl rfl hl.1 rfl (lv_room (Nat.le_of_ble_eq_true rfl)) dX9_look_239 ⟨hkc, hks⟩) hS (fun q _ h => hF q h) hF (fun r18 s17 t H1 locs ht hvm hwp hB hz1 hk1 hS => ?_)
          obtain ⟨hP1, hK1, hD1⟩ := hB
          rw [ht] at hP1
          have hD2 := hD1.weaken (fun _ q _ h => hF q.1 h)
          clear hP hD
          have hP := hP1
          have hD := hD2
          clear hP1 hD1 hD2 hK1 hk1 hz1 hF
          generalize H1 = H at hP hS ⊢
          refine lv_dload_n hx hb dX9_look_242 rfl (lv_at hl 1 rfl) ?_
          refine lv_dload hx hb dX9_look_243 (lv_at hl 0 rfl) ?_
          refine lv_ddiv hx hb dX9_look_245 hwp.1 ?_
          replace hwp := hwp.2
          refine lv_dcmp hx hb dX9_look_246 ?_
          refine lv_if_ge (tgt := 254) hx hb dX9_look_247 (by decide) (fun c_247 => ?_) (fun c_247 => ?_)
          · replace hwp := hwp.1 c_247
            refine lv_iconst (v := 0) hx hb dX9_look_254 (by decide) ?_
            exact J255 s17 0 hwp _ _ _ hP hD hS (lv_sub hl [2, 3] rfl)
          · replace hwp := hwp.2 c_247
            exact J250 s17 hwp _ _ _ hP hD hS (lv_sub hl [2, 3] rfl)
      · replace hwp := hwp.2 c_161
        refine lv_aload_n hx hb dX9_look_164 rfl (lv_at hl 0 rfl) ?_
        refine va_get (D := (dC, dI)) (ci := 9) (v := .ref (ad 113 0)) (C := RX9) (T := TX9) (N := 43) hx hb hts iX9_look_9 hown hK hP 0 atModel rfl 13 (by decide) (hts (.fieldLink RX9 43 "LinkQueuesModel" "meanCount" "[I") (by decide +kernel)) (fun _ h9 => h9) rfl dX9_look_165 ?_
        refine lv_iload_n hx hb dX9_look_168 rfl (lv_at hl 1 rfl) ?_
        refine lv_iconst (v := 0) hx hb dX9_look_169 (by decide) ?_
        obtain ⟨hi_19, hwp⟩ := hwp
        obtain ⟨s20, e_s20⟩ : ∃ z, z = upI z123 1013 a1.toNatClampNeg 0 := ⟨_, rfl⟩
        refine va_iast (D := (dC, dI)) hx hb hK hP hD hS 8 1 atm13 rfl hi_19 dX9_look_170 (fun H locs hP hD hS => ?_)
        rw [stm13, ← e_s20] at hP hD
        replace hwp := hwp s20 e_s20
        refine lv_iconst (v := 1) hx hb dX9_look_171 (by decide) ?_
        exact W.iret (v := 1) hx hb hr (fun t ht hW => ⟨⟨1, s20, rfl, hwp, by rw [ht]; exact hP, va_K.moved hW.alike hK, hD⟩, hS.F ht⟩) hS.2.2 dX9_look_172
    · replace hwp := hwp.2 c_136
      refine lv_aload_n hx hb dX9_look_139 rfl (lv_at hl 0 rfl) ?_
      refine va_get (D := (dC, dI)) (ci := 9) (v := .ref (ad 113 0)) (C := RX9) (T := TX9) (N := 43) hx hb hts iX9_look_9 hown hK hP 0 atModel rfl 13 (by decide) (hts (.fieldLink RX9 43 "LinkQueuesModel" "meanCount" "[I") (by decide +kernel)) (fun _ h9 => h9) rfl dX9_look_140 ?_
      refine lv_iload_n hx hb dX9_look_143 rfl (lv_at hl 1 rfl) ?_
      refine lv_iconst (v := (-1)) hx hb dX9_look_144 (by decide) ?_
      obtain ⟨hi_21, hwp⟩ := hwp
      obtain ⟨s22, e_s22⟩ : ∃ z, z = upI z123 1013 a1.toNatClampNeg (-1) := ⟨_, rfl⟩
      refine va_iast (D := (dC, dI)) hx hb hK hP hD hS 8 1 atm13 rfl hi_21 dX9_look_145 (fun H locs hP hD hS => ?_)
      rw [stm13, ← e_s22] at hP hD
      replace hwp := hwp s22 e_s22
      refine lv_iconst (v := 0) hx hb dX9_look_146 (by decide) ?_
      exact W.iret (v := 0) hx hb hr (fun t ht hW => ⟨⟨0, s22, rfl, hwp, by rw [ht]; exact hP, va_K.moved hW.alike hK, hD⟩, hS.F ht⟩) hS.2.2 dX9_look_147
  refine lv_if_ne (tgt := 89) hx hb dX9_look_6 (by decide) (fun c_6 => ?_) (fun c_6 => ?_)
  · replace hwp := hwp.1 c_6
    refine lv_aload_n hx hb dX9_look_89 rfl (lv_at hl 0 rfl) ?_
    refine va_get (D := (dC, dI)) (ci := 9) (v := .ref (ad 112 0)) (C := RX9) (T := TX9) (N := 43) hx hb hts iX9_look_9 hown hK hP 0 atModel rfl 12 (by decide) (hts (.fieldLink RX9 40 "LinkQueuesModel" "average" "[D") (by decide +kernel)) (fun _ h9 => h9) rfl dX9_look_90 ?_
    refine lv_iload_n hx hb dX9_look_93 rfl (lv_at hl 1 rfl) ?_
    refine lv_aload_n hx hb dX9_look_94 rfl (lv_at hl 0 rfl) ?_
    refine va_get (D := (dC, dI)) (ci := 9) (v := .ref (ad 112 0)) (C := RX9) (T := TX9) (N := 43) hx hb hts iX9_look_9 hown hK hP 0 atModel rfl 12 (by decide) (hts (.fieldLink RX9 40 "LinkQueuesModel" "average" "[D") (by decide +kernel)) (fun _ h9 => h9) rfl dX9_look_95 ?_
    refine lv_iload_n hx hb dX9_look_98 rfl (lv_at hl 1 rfl) ?_
    obtain ⟨hi_23, hwp⟩ := hwp
    refine va_dald (D := (dC, dI)) hx hb hK hP 7 0 atm12 rfl hi_23 dX9_look_99 ?_
    refine lv_aload_n hx hb dX9_look_100 rfl (lv_at hl 0 rfl) ?_
    refine va_get (D := (dC, dI)) (ci := 9) (v := .ref (ad 111 0)) (C := RX9) (T := TX9) (N := 43) hx hb hts iX9_look_9 hown hK hP 0 atModel rfl 11 (by decide) (hts (.fieldLink RX9 37 "LinkQueuesModel" "weight" "[D") (by decide +kernel)) (fun _ h9 => h9) rfl dX9_look_101 ?_
    refine lv_iload_n hx hb dX9_look_104 rfl (lv_at hl 1 rfl) ?_
    obtain ⟨hi_24, hwp⟩ := hwp
    refine va_dald (D := (dC, dI)) hx hb hK hP 6 0 atm11 rfl hi_24 dX9_look_105 ?_
    refine lv_aload_n hx hb dX9_look_106 rfl (lv_at hl 0 rfl) ?_
    refine va_get (D := (dC, dI)) (ci := 9) (v := .ref (ad 123 0)) (C := RX9) (T := TX9) (N := 43) hx hb hts iX9_look_9 hown hK hP 0 atModel rfl 23 (by decide) (hts (.fieldLink RX9 74 "LinkQueuesModel" "sizes" "[I") (by decide +kernel)) (fun _ h9 => h9) rfl dX9_look_107 ?_
    refine lv_iload_n hx hb dX9_look_110 rfl (lv_at hl 1 rfl) ?_
    obtain ⟨hi_25, hwp⟩ := hwp
    refine va_iald (D := (dC, dI)) hx hb hK hP 18 1 atm23 rfl hi_25 dX9_look_111 ?_
    refine lv_i2d hx hb dX9_look_112 ?_
    refine lv_aload_n hx hb dX9_look_113 rfl (lv_at hl 0 rfl) ?_
    refine va_get (D := (dC, dI)) (ci := 9) (v := .ref (ad 112 0)) (C := RX9) (T := TX9) (N := 43) hx hb hts iX9_look_9 hown hK hP 0 atModel rfl 12 (by decide) (hts (.fieldLink RX9 40 "LinkQueuesModel" "average" "[D") (by decide +kernel)) (fun _ h9 => h9) rfl dX9_look_114 ?_
    refine lv_iload_n hx hb dX9_look_117 rfl (lv_at hl 1 rfl) ?_
    obtain ⟨hi_26, hwp⟩ := hwp
    refine va_dald (D := (dC, dI)) hx hb hK hP 7 0 atm12 rfl hi_26 dX9_look_118 ?_
    refine lv_dsub hx hb dX9_look_119 hwp.1 ?_
    replace hwp := hwp.2
    refine lv_dmul hx hb dX9_look_120 hwp.1 ?_
    replace hwp := hwp.2
    refine lv_dadd hx hb dX9_look_121 hwp.1 ?_
    replace hwp := hwp.2
    obtain ⟨hi_27, hwp⟩ := hwp
    obtain ⟨s28, e_s28⟩ : ∃ z, z = upD σ 1012 a1.toNatClampNeg (FP.dadd (sD σ 1012 a1.toNatClampNeg) (FP.dmul (sD σ 1011 a1.toNatClampNeg) (FP.dsub (FP.i2d (sI σ 1023 a1.toNatClampNeg)) (sD σ 1012 a1.toNatClampNeg)))) := ⟨_, rfl⟩
    refine va_dast (D := (dC, dI)) hx hb hK hP hD hS 7 0 atm12 rfl hi_27 dX9_look_122 (fun H locs hP hD hS => ?_)
    rw [stm12, ← e_s28] at hP hD
    replace hwp := hwp s28 e_s28
    exact J123 s28 hwp _ _ _ hP hD hS (lv_sub hl [0, 1] rfl)
  · replace hwp := hwp.2 c_6
    refine lv_aload_n hx hb dX9_look_9 rfl (lv_at hl 0 rfl) ?_
    refine va_get (D := (dC, dI)) (ci := 9) (v := .int (sI σ 1001 0)) (C := RX9) (T := TX9) (N := 43) hx hb hts iX9_look_9 hown hK hP 0 atModel rfl 1 (by decide) (hts (.fieldLink RX9 126 "LinkQueuesModel" "now" "I") (by decide +kernel)) (fun _ h9 => h9) rfl dX9_look_10 ?_
    refine lv_aload_n hx hb dX9_look_13 rfl (lv_at hl 0 rfl) ?_
    refine va_get (D := (dC, dI)) (ci := 9) (v := .ref (ad 114 0)) (C := RX9) (T := TX9) (N := 43) hx hb hts iX9_look_9 hown hK hP 0 atModel rfl 14 (by decide) (hts (.fieldLink RX9 46 "LinkQueuesModel" "emptySince" "[I") (by decide +kernel)) (fun _ h9 => h9) rfl dX9_look_14 ?_
    refine lv_iload_n hx hb dX9_look_17 rfl (lv_at hl 1 rfl) ?_
    obtain ⟨hi_29, hwp⟩ := hwp
    refine va_iald (D := (dC, dI)) hx hb hK hP 9 1 atm14 rfl hi_29 dX9_look_18 ?_
    refine lv_isub hx hb dX9_look_19 ?_
    refine lv_bipush (v := 100) hx hb dX9_look_20 (by decide) ?_
    have J41 : ∀ (z41 : ST) (y0_41 : Int32), wp_X9_look_J41 a1 K (wp_X9_look_J123 a1 K) z41 y0_41 → ∀ (H : Heap) (locs : List Loc) (ls : Array Slot), va_P (dC, dI) vwCl (Wm cA ad z41) H → va_D A (Wm cA ad z41) → va_S A s.heap H locs → lv_has ls 7 [(0, .ref (ad 9 0)), (1, .int a1)] → W p l e ({ frames := 1, cells := 0, slots := 0, locals := 23 } : Room) s m ([.ref (ad 9 0), .int a1] : List Value).toArray below meth c H locs 0 0 (MQ below (va_Qi K (atC dC dI cA (Wm cA ad) A) A) ([.ref (ad 9 0), .int a1] : List Value).toArray s 0 0 A) (F0 m 41 ls [.int y0_41]) := by
      intro z41 y0_41 hwp H locs ls hP hD hS hl
      refine lv_istore_n (lv' := [(2, .int y0_41), (0, .ref (ad 9 0)), (1, .int a1)]) hx hb dX9_look_41 rfl hl (by decide) rfl (fun ls hl => ?_)
      refine lv_iconst (v := 0) hx hb dX9_look_42 (by decide) ?_
      refine lv_istore_n (lv' := [(3, .int 0), (2, .int y0_41), (0, .ref (ad 9 0)), (1, .int a1)]) hx hb dX9_look_43 rfl hl (by decide) rfl (fun ls hl => ?_)
      obtain ⟨n44, hwp⟩ := hwp
      have L44 : ∀ (fu44 : Nat) (z44 : ST) (x3_44 : Int32), wp_X9_look_L44 a1 y0_41 K (wp_X9_look_J123 a1 K) fu44 z44 x3_44 → ∀ (H : Heap) (locs : List Loc) (ls : Array Slot), va_P (dC, dI) vwCl (Wm cA ad z44) H → va_D A (Wm cA ad z44) → va_S A s.heap H locs → lv_has ls 7 [(3, .int x3_44), (2, .int y0_41), (0, .ref (ad 9 0)), (1, .int a1)] → W p l e ({ frames := 1, cells := 0, slots := 0, locals := 23 } : Room) s m ([.ref (ad 9 0), .int a1] : List Value).toArray below meth c H locs 0 0 (MQ below (va_Qi K (atC dC dI cA (Wm cA ad) A) A) ([.ref (ad 9 0), .int a1] : List Value).toArray s 0 0 A) (F0 m 44 ls []) := by
        intro fu44
        induction fu44 with
        | zero => intro z44 x3_44 h; exact h.elim
        | succ fu44 ih44 =>
          intro z44 x3_44 hwp H locs ls hP hD hS hl
          refine lv_iload_n hx hb dX9_look_44 rfl (lv_at hl 0 rfl) ?_
          refine lv_iload_n hx hb dX9_look_45 rfl (lv_at hl 1 rfl) ?_
          refine lv_icmp_ge (tgt := 76) hx hb dX9_look_46 (by decide) (fun c_46 => ?_) (fun c_46 => ?_)
          · replace hwp := hwp.1 c_46
            refine lv_aload_n hx hb dX9_look_76 rfl (lv_at hl 2 rfl) ?_
            refine va_get (D := (dC, dI)) (ci := 9) (v := .ref (ad 114 0)) (C := RX9) (T := TX9) (N := 43) hx hb hts iX9_look_9 hown hK hP 0 atModel rfl 14 (by decide) (hts (.fieldLink RX9 46 "LinkQueuesModel" "emptySince" "[I") (by decide +kernel)) (fun _ h9 => h9) rfl dX9_look_77 ?_
            refine lv_iload_n hx hb dX9_look_80 rfl (lv_at hl 3 rfl) ?_
            refine lv_aload_n hx hb dX9_look_81 rfl (lv_at hl 2 rfl) ?_
            refine va_get (D := (dC, dI)) (ci := 9) (v := .int (sI z44 1001 0)) (C := RX9) (T := TX9) (N := 43) hx hb hts iX9_look_9 hown hK hP 0 atModel rfl 1 (by decide) (hts (.fieldLink RX9 126 "LinkQueuesModel" "now" "I") (by decide +kernel)) (fun _ h9 => h9) rfl dX9_look_82 ?_
            obtain ⟨hi_30, hwp⟩ := hwp
            obtain ⟨s31, e_s31⟩ : ∃ z, z = upI z44 1014 a1.toNatClampNeg (sI z44 1001 0) := ⟨_, rfl⟩
            refine va_iast (D := (dC, dI)) hx hb hK hP hD hS 9 1 atm14 rfl hi_30 dX9_look_85 (fun H locs hP hD hS => ?_)
            rw [stm14, ← e_s31] at hP hD
            replace hwp := hwp s31 e_s31
            refine lv_goto (tgt := 123) hx hb dX9_look_86 (by decide) ?_
            exact J123 s31 hwp _ _ _ hP hD hS (lv_sub hl [2, 3] rfl)
          · replace hwp := hwp.2 c_46
            refine lv_aload_n hx hb dX9_look_49 rfl (lv_at hl 2 rfl) ?_
            refine va_get (D := (dC, dI)) (ci := 9) (v := .ref (ad 112 0)) (C := RX9) (T := TX9) (N := 43) hx hb hts iX9_look_9 hown hK hP 0 atModel rfl 12 (by decide) (hts (.fieldLink RX9 40 "LinkQueuesModel" "average" "[D") (by decide +kernel)) (fun _ h9 => h9) rfl dX9_look_50 ?_
            refine lv_iload_n hx hb dX9_look_53 rfl (lv_at hl 3 rfl) ?_
            refine lv_aload_n hx hb dX9_look_54 rfl (lv_at hl 2 rfl) ?_
            refine va_get (D := (dC, dI)) (ci := 9) (v := .ref (ad 112 0)) (C := RX9) (T := TX9) (N := 43) hx hb hts iX9_look_9 hown hK hP 0 atModel rfl 12 (by decide) (hts (.fieldLink RX9 40 "LinkQueuesModel" "average" "[D") (by decide +kernel)) (fun _ h9 => h9) rfl dX9_look_55 ?_
            refine lv_iload_n hx hb dX9_look_58 rfl (lv_at hl 3 rfl) ?_
            obtain ⟨hi_32, hwp⟩ := hwp
            refine va_dald (D := (dC, dI)) hx hb hK hP 7 0 atm12 rfl hi_32 dX9_look_59 ?_
            refine lv_dconst1 hx hb dX9_look_60 ?_
            refine lv_aload_n hx hb dX9_look_61 rfl (lv_at hl 2 rfl) ?_
            refine va_get (D := (dC, dI)) (ci := 9) (v := .ref (ad 111 0)) (C := RX9) (T := TX9) (N := 43) hx hb hts iX9_look_9 hown hK hP 0 atModel rfl 11 (by decide) (hts (.fieldLink RX9 37 "LinkQueuesModel" "weight" "[D") (by decide +kernel)) (fun _ h9 => h9) rfl dX9_look_62 ?_
            refine lv_iload_n hx hb dX9_look_65 rfl (lv_at hl 3 rfl) ?_
            obtain ⟨hi_33, hwp⟩ := hwp
            refine va_dald (D := (dC, dI)) hx hb hK hP 6 0 atm11 rfl hi_33 dX9_look_66 ?_
            refine lv_dsub hx hb dX9_look_67 hwp.1 ?_
            replace hwp := hwp.2
            refine lv_dmul hx hb dX9_look_68 hwp.1 ?_
            replace hwp := hwp.2
            obtain ⟨hi_34, hwp⟩ := hwp
            obtain ⟨s35, e_s35⟩ : ∃ z, z = upD z44 1012 a1.toNatClampNeg (FP.dmul (sD z44 1012 a1.toNatClampNeg) (FP.dsub FP.dconst1 (sD z44 1011 a1.toNatClampNeg))) := ⟨_, rfl⟩
            refine va_dast (D := (dC, dI)) hx hb hK hP hD hS 7 0 atm12 rfl hi_34 dX9_look_69 (fun H locs hP hD hS => ?_)
            rw [stm12, ← e_s35] at hP hD
            replace hwp := hwp s35 e_s35
            refine lv_iinc (v := (x3_44 + 1)) (lv' := [(3, .int (x3_44 + 1)), (2, .int y0_41), (0, .ref (ad 9 0)), (1, .int a1)]) hx hb dX9_look_70 hl (k := 0) rfl rfl (by decide) rfl (fun ls hl => ?_)
            refine lv_goto (tgt := 44) hx hb dX9_look_73 (by decide) ?_
            exact ih44 s35 (x3_44 + 1) hwp _ _ _ hP hD hS (lv_sub hl [0, 1, 2, 3] rfl)
      exact L44 n44 z41 0 hwp _ _ _ hP hD hS (lv_sub hl [0, 1, 2, 3] rfl)
    refine lv_icmp_ge (tgt := 39) hx hb dX9_look_22 (by decide) (fun c_22 => ?_) (fun c_22 => ?_)
    · replace hwp := hwp.1 c_22
      refine lv_bipush (v := 100) hx hb dX9_look_39 (by decide) ?_
      exact J41 σ 100 hwp _ _ _ hP hD hS (lv_sub hl [0, 1] rfl)
    · replace hwp := hwp.2 c_22
      refine lv_aload_n hx hb dX9_look_25 rfl (lv_at hl 0 rfl) ?_
      refine va_get (D := (dC, dI)) (ci := 9) (v := .int (sI σ 1001 0)) (C := RX9) (T := TX9) (N := 43) hx hb hts iX9_look_9 hown hK hP 0 atModel rfl 1 (by decide) (hts (.fieldLink RX9 126 "LinkQueuesModel" "now" "I") (by decide +kernel)) (fun _ h9 => h9) rfl dX9_look_26 ?_
      refine lv_aload_n hx hb dX9_look_29 rfl (lv_at hl 0 rfl) ?_
      refine va_get (D := (dC, dI)) (ci := 9) (v := .ref (ad 114 0)) (C := RX9) (T := TX9) (N := 43) hx hb hts iX9_look_9 hown hK hP 0 atModel rfl 14 (by decide) (hts (.fieldLink RX9 46 "LinkQueuesModel" "emptySince" "[I") (by decide +kernel)) (fun _ h9 => h9) rfl dX9_look_30 ?_
      refine lv_iload_n hx hb dX9_look_33 rfl (lv_at hl 1 rfl) ?_
      obtain ⟨hi_36, hwp⟩ := hwp
      refine va_iald (D := (dC, dI)) hx hb hK hP 9 1 atm14 rfl hi_36 dX9_look_34 ?_
      refine lv_isub hx hb dX9_look_35 ?_
      refine lv_goto (tgt := 41) hx hb dX9_look_36 (by decide) ?_
      exact J41 σ ((sI σ 1001 0) - (sI σ 1014 a1.toNatClampNeg)) hwp _ _ _ hP hD hS (lv_sub hl [0, 1] rfl)
def wp_X9_takeOut_L67 (a1 : Int32) (K : ST → Prop) : Nat → ST → Int32 → Prop
  | 0 => fun _ _ => False
  | fu67 + 1 => fun z67 x3_67 => vp_in a1 6 ∧
((((100 * a1) + (sI z67 1023 a1.toNatClampNeg)) ≤ x3_67 → (vp_in a1 6 ∧
((¬ (sI z67 1023 a1.toNatClampNeg) = 0 → (K z67)) ∧ ((sI z67 1023 a1.toNatClampNeg) = 0 → (vp_in a1 6 ∧
∀ s19, s19 = upI z67 1014 a1.toNatClampNeg (sI z67 1001 0) →
K s19))))) ∧ (¬ (((100 * a1) + (sI z67 1023 a1.toNatClampNeg)) ≤ x3_67) → (vp_in (x3_67 + 1) 600 ∧
vp_in x3_67 600 ∧
∀ s22, s22 = upI z67 1024 x3_67.toNatClampNeg (sI z67 1024 (x3_67 + 1).toNatClampNeg) →
vp_in (x3_67 + 1) 600 ∧
vp_in x3_67 600 ∧
∀ s25, s25 = upI s22 1025 x3_67.toNatClampNeg (sI s22 1025 (x3_67 + 1).toNatClampNeg) →
vp_in (x3_67 + 1) 600 ∧
vp_in x3_67 600 ∧
∀ s28, s28 = upI s25 1026 x3_67.toNatClampNeg (sI s25 1026 (x3_67 + 1).toNatClampNeg) →
vp_in (x3_67 + 1) 600 ∧
vp_in x3_67 600 ∧
isB (sI s28 1027 (x3_67 + 1).toNatClampNeg) ∧
∀ s31, s31 = upI s28 1027 x3_67.toNatClampNeg (sI s28 1027 (x3_67 + 1).toNatClampNeg) →
vp_in (x3_67 + 1) 600 ∧
vp_in x3_67 600 ∧
isB (sI s31 1028 (x3_67 + 1).toNatClampNeg) ∧
∀ s35, s35 = upI s31 1028 x3_67.toNatClampNeg (sI s31 1028 (x3_67 + 1).toNatClampNeg) →
wp_X9_takeOut_L67 a1 K fu67 s35 (x3_67 + 1))))
def wp_X9_takeOut (σ : ST) (a1 : Int32) (K : ST → Prop) : Prop := vp_in (100 * a1) 600 ∧
∀ s2, s2 = upI σ 1038 0 (sI σ 1024 (100 * a1).toNatClampNeg) →
vp_in (100 * a1) 600 ∧
∀ s4, s4 = upI s2 1039 0 (sI s2 1025 (100 * a1).toNatClampNeg) →
vp_in (100 * a1) 600 ∧
∀ s6, s6 = upI s4 1040 0 (sI s4 1026 (100 * a1).toNatClampNeg) →
vp_in (100 * a1) 600 ∧
isB (sI s6 1027 (100 * a1).toNatClampNeg) ∧
∀ s8, s8 = upI s6 1041 0 (sI s6 1027 (100 * a1).toNatClampNeg) →
vp_in (100 * a1) 600 ∧
isB (sI s8 1028 (100 * a1).toNatClampNeg) ∧
∀ s11, s11 = upI s8 1042 0 (sI s8 1028 (100 * a1).toNatClampNeg) →
vp_in a1 6 ∧
vp_in a1 6 ∧
∀ s15, s15 = upI s11 1023 a1.toNatClampNeg ((sI s11 1023 a1.toNatClampNeg) - 1) →
∃ n67, wp_X9_takeOut_L67 a1 K n67 s15 (100 * a1)
set_option maxRecDepth 20000 in
theorem iX9_takeOut_9 : ∀ w ∈ wsX90, w ∈ wsX9_takeOut := by decide +kernel
set_option maxHeartbeats 8000000 in
set_option maxRecDepth 100000 in
theorem c_X9_takeOut (l : Launch) (dC : Nat → ClassId) (dI : Nat → Nat → Nat) (cA : Nat → ClassId) (ad : Nat → Nat → Nat) (σ : ST) (a1 : Int32) (sz : Nat) (K : ST → Prop) (hwp : wp_X9_takeOut σ a1 K) : Met l yX9_takeOut wsX9_takeOut ({ frames := 0, cells := 0, slots := 0, locals := 0 } : Room) (va_Pc [.ref (ad 9 0), .int a1] (preC dC dI cA (Wm cA ad σ) sz)) (va_Qv K (atC dC dI cA (Wm cA ad) (va_A (Wm cA ad σ) sz)) (va_A (Wm cA ad σ) sz)) 0 0 (va_A (Wm cA ad σ) sz) := by
  refine Met.ofW (cc := cX9_takeOut) (maxL := 4) (ret := none) (by decide) rfl ?_
  intro p e s m args below meth c s₁ B hml hv
  obtain ⟨rfl, hsz, hP, hK, hD0⟩ := hv
  have hx := B.exec
  have hb := B.bytes
  have hr := B.returns
  have hts := atoms_spec (ws := wsX9_takeOut) B.pre
  have hown : s.vm.findClass RX9 = some m.cls := findClass_of_methodNamed B.named
  have hlocks := B.notSynchronized
  subst hsz
  have hD := hD0.self (sz := s.heap.size)
  clear hD0
  generalize hAe : va_A (Wm cA ad σ) s.heap.size = A at hD ⊢
  have hA : ∀ q : Nat, s.heap.size ≤ q → A q := fun q h => by rw [← hAe]; exact Or.inr h
  have hS : va_S A s.heap s.heap [] := va_S.rf
  have hkc : 0 ≤ 0 := Nat.le_refl 0
  have hks : 0 ≤ 0 := Nat.le_refl 0
  have hl := lv_entry ([.ref (ad 9 0), .int a1]) (n := 4) (Nat.le_of_ble_eq_true rfl)
  rw [lg_entry_eq]
  generalize (lg_sl ([.ref (ad 9 0), .int a1]) ++ List.replicate (4 - (lg_sl ([.ref (ad 9 0), .int a1])).length) Slot.unset).toArray = ls at hl ⊢
  have hl : lv_has ls 4 [(0, .ref (ad 9 0)), (1, .int a1)] := hl
  unfold wp_X9_takeOut at hwp
  generalize hHe : s.heap = H at hP ⊢
  have hS : va_S A s.heap H [] := by rw [← hHe]; exact va_S.rf
  clear hHe
  refine lv_bipush (v := 100) hx hb dX9_takeOut_0 (by decide) ?_
  refine lv_iload_n hx hb dX9_takeOut_2 rfl (lv_at hl 1 rfl) ?_
  refine lv_imul hx hb dX9_takeOut_3 ?_
  refine lv_istore_n (lv' := [(2, .int (100 * a1)), (0, .ref (ad 9 0)), (1, .int a1)]) hx hb dX9_takeOut_4 rfl hl (by decide) rfl (fun ls hl => ?_)
  refine lv_aload_n hx hb dX9_takeOut_5 rfl (lv_at hl 1 rfl) ?_
  refine lv_aload_n hx hb dX9_takeOut_6 rfl (lv_at hl 1 rfl) ?_
  refine va_get (D := (dC, dI)) (ci := 9) (v := .ref (ad 124 0)) (C := RX9) (T := TX9) (N := 43) hx hb hts iX9_takeOut_9 hown hK hP 0 atModel rfl 24 (by decide) (hts (.fieldLink RX9 77 "LinkQueuesModel" "numbers" "[I") (by decide +kernel)) (fun _ h9 => h9) rfl dX9_takeOut_7 ?_
  refine lv_iload_n hx hb dX9_takeOut_10 rfl (lv_at hl 0 rfl) ?_
  obtain ⟨hi_1, hwp⟩ := hwp
  refine va_iald (D := (dC, dI)) hx hb hK hP 19 1 atm24 rfl hi_1 dX9_takeOut_11 ?_
  obtain ⟨s2, e_s2⟩ : ∃ z, z = upI σ 1038 0 (sI σ 1024 (100 * a1).toNatClampNeg) := ⟨_, rfl⟩
  refine st_put (D := (dC, dI)) (ci := 9) (v := .int (sI σ 1024 (100 * a1).toNatClampNeg)) (ty := .int) (C := RX9) (T := TX9) (N := 43) (ws' := Wm cA ad s2) hx hb hts iX9_takeOut_9 tyX9 tyX9_ok nmX9 hown hK hP hD hS 0 atModel rfl 38 (by decide) (hts (.fieldLink RX9 161 "LinkQueuesModel" "outNumber" "I") (by decide +kernel)) (fun _ h9 => h9) rfl (by decide +kernel) rfl rfl (Nat.le_of_ble_eq_true rfl) dX9_takeOut_12 (by rw [e_s2]; exact stM_38 (sI σ 1024 (100 * a1).toNatClampNeg)) (fun H locs hP hD hS => ?_)
  replace hwp := hwp s2 e_s2
  refine lv_aload_n hx hb dX9_takeOut_15 rfl (lv_at hl 1 rfl) ?_
  refine lv_aload_n hx hb dX9_takeOut_16 rfl (lv_at hl 1 rfl) ?_
  refine va_get (D := (dC, dI)) (ci := 9) (v := .ref (ad 125 0)) (C := RX9) (T := TX9) (N := 43) hx hb hts iX9_takeOut_9 hown hK hP 0 atModel rfl 25 (by decide) (hts (.fieldLink RX9 80 "LinkQueuesModel" "bytesOf" "[I") (by decide +kernel)) (fun _ h9 => h9) rfl dX9_takeOut_17 ?_
  refine lv_iload_n hx hb dX9_takeOut_20 rfl (lv_at hl 0 rfl) ?_
  obtain ⟨hi_3, hwp⟩ := hwp
  refine va_iald (D := (dC, dI)) hx hb hK hP 20 1 atm25 rfl hi_3 dX9_takeOut_21 ?_
  obtain ⟨s4, e_s4⟩ : ∃ z, z = upI s2 1039 0 (sI s2 1025 (100 * a1).toNatClampNeg) := ⟨_, rfl⟩
  refine st_put (D := (dC, dI)) (ci := 9) (v := .int (sI s2 1025 (100 * a1).toNatClampNeg)) (ty := .int) (C := RX9) (T := TX9) (N := 43) (ws' := Wm cA ad s4) hx hb hts iX9_takeOut_9 tyX9 tyX9_ok nmX9 hown hK hP hD hS 0 atModel rfl 39 (by decide) (hts (.fieldLink RX9 164 "LinkQueuesModel" "outBytes" "I") (by decide +kernel)) (fun _ h9 => h9) rfl (by decide +kernel) rfl rfl (Nat.le_of_ble_eq_true rfl) dX9_takeOut_22 (by rw [e_s4]; exact stM_39 (sI s2 1025 (100 * a1).toNatClampNeg)) (fun H locs hP hD hS => ?_)
  replace hwp := hwp s4 e_s4
  refine lv_aload_n hx hb dX9_takeOut_25 rfl (lv_at hl 1 rfl) ?_
  refine lv_aload_n hx hb dX9_takeOut_26 rfl (lv_at hl 1 rfl) ?_
  refine va_get (D := (dC, dI)) (ci := 9) (v := .ref (ad 126 0)) (C := RX9) (T := TX9) (N := 43) hx hb hts iX9_takeOut_9 hown hK hP 0 atModel rfl 26 (by decide) (hts (.fieldLink RX9 83 "LinkQueuesModel" "times" "[I") (by decide +kernel)) (fun _ h9 => h9) rfl dX9_takeOut_27 ?_
  refine lv_iload_n hx hb dX9_takeOut_30 rfl (lv_at hl 0 rfl) ?_
  obtain ⟨hi_5, hwp⟩ := hwp
  refine va_iald (D := (dC, dI)) hx hb hK hP 21 1 atm26 rfl hi_5 dX9_takeOut_31 ?_
  obtain ⟨s6, e_s6⟩ : ∃ z, z = upI s4 1040 0 (sI s4 1026 (100 * a1).toNatClampNeg) := ⟨_, rfl⟩
  refine st_put (D := (dC, dI)) (ci := 9) (v := .int (sI s4 1026 (100 * a1).toNatClampNeg)) (ty := .int) (C := RX9) (T := TX9) (N := 43) (ws' := Wm cA ad s6) hx hb hts iX9_takeOut_9 tyX9 tyX9_ok nmX9 hown hK hP hD hS 0 atModel rfl 40 (by decide) (hts (.fieldLink RX9 167 "LinkQueuesModel" "outTime" "I") (by decide +kernel)) (fun _ h9 => h9) rfl (by decide +kernel) rfl rfl (Nat.le_of_ble_eq_true rfl) dX9_takeOut_32 (by rw [e_s6]; exact stM_40 (sI s4 1026 (100 * a1).toNatClampNeg)) (fun H locs hP hD hS => ?_)
  replace hwp := hwp s6 e_s6
  refine lv_aload_n hx hb dX9_takeOut_35 rfl (lv_at hl 1 rfl) ?_
  refine lv_aload_n hx hb dX9_takeOut_36 rfl (lv_at hl 1 rfl) ?_
  refine va_get (D := (dC, dI)) (ci := 9) (v := .ref (ad 127 0)) (C := RX9) (T := TX9) (N := 43) hx hb hts iX9_takeOut_9 hown hK hP 0 atModel rfl 27 (by decide) (hts (.fieldLink RX9 86 "LinkQueuesModel" "markable" "[Z") (by decide +kernel)) (fun _ h9 => h9) rfl dX9_takeOut_37 ?_
  refine lv_iload_n hx hb dX9_takeOut_40 rfl (lv_at hl 0 rfl) ?_
  obtain ⟨hi_7, hwp⟩ := hwp
  refine va_zald (D := (dC, dI)) hx hb hK hP 22 2 atm27 rfl hi_7 dX9_takeOut_41 ?_
  obtain ⟨hB_9, hwp⟩ := hwp
  obtain ⟨s8, e_s8⟩ : ∃ z, z = upI s6 1041 0 (sI s6 1027 (100 * a1).toNatClampNeg) := ⟨_, rfl⟩
  refine st_put (D := (dC, dI)) (ci := 9) (v := .int (sI s6 1027 (100 * a1).toNatClampNeg)) (ty := .boolean) (C := RX9) (T := TX9) (N := 43) (ws' := Wm cA ad s8) hx hb hts iX9_takeOut_9 tyX9 tyX9_ok nmX9 hown hK hP hD hS 0 atModel rfl 41 (by decide) (hts (.fieldLink RX9 170 "LinkQueuesModel" "outMarkable" "Z") (by decide +kernel)) (fun _ h9 => h9) rfl (by decide +kernel) (isB_nar hB_9) (isB_fits hB_9) (Nat.le_of_ble_eq_true rfl) dX9_takeOut_42 (by rw [e_s8]; exact stM_41 (sI s6 1027 (100 * a1).toNatClampNeg)) (fun H locs hP hD hS => ?_)
  replace hwp := hwp s8 e_s8
  refine lv_aload_n hx hb dX9_takeOut_45 rfl (lv_at hl 1 rfl) ?_
  refine lv_aload_n hx hb dX9_takeOut_46 rfl (lv_at hl 1 rfl) ?_
  refine va_get (D := (dC, dI)) (ci := 9) (v := .ref (ad 128 0)) (C := RX9) (T := TX9) (N := 43) hx hb hts iX9_takeOut_9 hown hK hP 0 atModel rfl 28 (by decide) (hts (.fieldLink RX9 89 "LinkQueuesModel" "marked" "[Z") (by decide +kernel)) (fun _ h9 => h9) rfl dX9_takeOut_47 ?_
  refine lv_iload_n hx hb dX9_takeOut_50 rfl (lv_at hl 0 rfl) ?_
  obtain ⟨hi_10, hwp⟩ := hwp
  refine va_zald (D := (dC, dI)) hx hb hK hP 23 2 atm28 rfl hi_10 dX9_takeOut_51 ?_
  obtain ⟨hB_12, hwp⟩ := hwp
  obtain ⟨s11, e_s11⟩ : ∃ z, z = upI s8 1042 0 (sI s8 1028 (100 * a1).toNatClampNeg) := ⟨_, rfl⟩
  refine st_put (D := (dC, dI)) (ci := 9) (v := .int (sI s8 1028 (100 * a1).toNatClampNeg)) (ty := .boolean) (C := RX9) (T := TX9) (N := 43) (ws' := Wm cA ad s11) hx hb hts iX9_takeOut_9 tyX9 tyX9_ok nmX9 hown hK hP hD hS 0 atModel rfl 42 (by decide) (hts (.fieldLink RX9 174 "LinkQueuesModel" "outMarked" "Z") (by decide +kernel)) (fun _ h9 => h9) rfl (by decide +kernel) (isB_nar hB_12) (isB_fits hB_12) (Nat.le_of_ble_eq_true rfl) dX9_takeOut_52 (by rw [e_s11]; exact stM_42 (sI s8 1028 (100 * a1).toNatClampNeg)) (fun H locs hP hD hS => ?_)
  replace hwp := hwp s11 e_s11
  refine lv_aload_n hx hb dX9_takeOut_55 rfl (lv_at hl 1 rfl) ?_
  refine va_get (D := (dC, dI)) (ci := 9) (v := .ref (ad 123 0)) (C := RX9) (T := TX9) (N := 43) hx hb hts iX9_takeOut_9 hown hK hP 0 atModel rfl 23 (by decide) (hts (.fieldLink RX9 74 "LinkQueuesModel" "sizes" "[I") (by decide +kernel)) (fun _ h9 => h9) rfl dX9_takeOut_56 ?_
  refine lv_iload_n hx hb dX9_takeOut_59 rfl (lv_at hl 2 rfl) ?_
  refine lv_dup2_11 hx hb dX9_takeOut_60 rfl rfl ?_
  obtain ⟨hi_13, hwp⟩ := hwp
  refine va_iald (D := (dC, dI)) hx hb hK hP 18 1 atm23 rfl hi_13 dX9_takeOut_61 ?_
  refine lv_iconst (v := 1) hx hb dX9_takeOut_62 (by decide) ?_
  refine lv_isub hx hb dX9_takeOut_63 ?_
  obtain ⟨hi_14, hwp⟩ := hwp
  obtain ⟨s15, e_s15⟩ : ∃ z, z = upI s11 1023 a1.toNatClampNeg ((sI s11 1023 a1.toNatClampNeg) - 1) := ⟨_, rfl⟩
  refine va_iast (D := (dC, dI)) hx hb hK hP hD hS 18 1 atm23 rfl hi_14 dX9_takeOut_64 (fun H locs hP hD hS => ?_)
  rw [stm23, ← e_s15] at hP hD
  replace hwp := hwp s15 e_s15
  refine lv_iload_n hx hb dX9_takeOut_65 rfl (lv_at hl 0 rfl) ?_
  refine lv_istore_n (lv' := [(3, .int (100 * a1)), (2, .int (100 * a1)), (0, .ref (ad 9 0)), (1, .int a1)]) hx hb dX9_takeOut_66 rfl hl (by decide) rfl (fun ls hl => ?_)
  obtain ⟨n67, hwp⟩ := hwp
  have L67 : ∀ (fu67 : Nat) (z67 : ST) (x3_67 : Int32), wp_X9_takeOut_L67 a1 K fu67 z67 x3_67 → ∀ (H : Heap) (locs : List Loc) (ls : Array Slot), va_P (dC, dI) vwCl (Wm cA ad z67) H → va_D A (Wm cA ad z67) → va_S A s.heap H locs → lv_has ls 4 [(3, .int x3_67), (2, .int (100 * a1)), (0, .ref (ad 9 0)), (1, .int a1)] → W p l e ({ frames := 0, cells := 0, slots := 0, locals := 0 } : Room) s m ([.ref (ad 9 0), .int a1] : List Value).toArray below meth c H locs 0 0 (MQ below (va_Qv K (atC dC dI cA (Wm cA ad) A) A) ([.ref (ad 9 0), .int a1] : List Value).toArray s 0 0 A) (F0 m 67 ls []) := by
    intro fu67
    induction fu67 with
    | zero => intro z67 x3_67 h; exact h.elim
    | succ fu67 ih67 =>
      intro z67 x3_67 hwp H locs ls hP hD hS hl
      refine lv_iload_n hx hb dX9_takeOut_67 rfl (lv_at hl 0 rfl) ?_
      refine lv_iload_n hx hb dX9_takeOut_68 rfl (lv_at hl 1 rfl) ?_
      refine lv_aload_n hx hb dX9_takeOut_69 rfl (lv_at hl 2 rfl) ?_
      refine va_get (D := (dC, dI)) (ci := 9) (v := .ref (ad 123 0)) (C := RX9) (T := TX9) (N := 43) hx hb hts iX9_takeOut_9 hown hK hP 0 atModel rfl 23 (by decide) (hts (.fieldLink RX9 74 "LinkQueuesModel" "sizes" "[I") (by decide +kernel)) (fun _ h9 => h9) rfl dX9_takeOut_70 ?_
      refine lv_iload_n hx hb dX9_takeOut_73 rfl (lv_at hl 3 rfl) ?_
      obtain ⟨hi_16, hwp⟩ := hwp
      refine va_iald (D := (dC, dI)) hx hb hK hP 18 1 atm23 rfl hi_16 dX9_takeOut_74 ?_
      refine lv_iadd hx hb dX9_takeOut_75 ?_
      refine lv_icmp_ge (tgt := 155) hx hb dX9_takeOut_76 (by decide) (fun c_76 => ?_) (fun c_76 => ?_)
      · replace hwp := hwp.1 c_76
        refine lv_aload_n hx hb dX9_takeOut_155 rfl (lv_at hl 2 rfl) ?_
        refine va_get (D := (dC, dI)) (ci := 9) (v := .ref (ad 123 0)) (C := RX9) (T := TX9) (N := 43) hx hb hts iX9_takeOut_9 hown hK hP 0 atModel rfl 23 (by decide) (hts (.fieldLink RX9 74 "LinkQueuesModel" "sizes" "[I") (by decide +kernel)) (fun _ h9 => h9) rfl dX9_takeOut_156 ?_
        refine lv_iload_n hx hb dX9_takeOut_159 rfl (lv_at hl 3 rfl) ?_
        obtain ⟨hi_17, hwp⟩ := hwp
        refine va_iald (D := (dC, dI)) hx hb hK hP 18 1 atm23 rfl hi_17 dX9_takeOut_160 ?_
        refine lv_if_ne (tgt := 174) hx hb dX9_takeOut_161 (by decide) (fun c_161 => ?_) (fun c_161 => ?_)
        · replace hwp := hwp.1 c_161
          exact W.vret hx hb hr (fun t ht hW => ⟨⟨z67, rfl, hwp, by rw [ht]; exact hP, va_K.moved hW.alike hK, hD⟩, hS.F ht⟩) hS.2.2 dX9_takeOut_174
        · replace hwp := hwp.2 c_161
          refine lv_aload_n hx hb dX9_takeOut_164 rfl (lv_at hl 2 rfl) ?_
          refine va_get (D := (dC, dI)) (ci := 9) (v := .ref (ad 114 0)) (C := RX9) (T := TX9) (N := 43) hx hb hts iX9_takeOut_9 hown hK hP 0 atModel rfl 14 (by decide) (hts (.fieldLink RX9 46 "LinkQueuesModel" "emptySince" "[I") (by decide +kernel)) (fun _ h9 => h9) rfl dX9_takeOut_165 ?_
          refine lv_iload_n hx hb dX9_takeOut_168 rfl (lv_at hl 3 rfl) ?_
          refine lv_aload_n hx hb dX9_takeOut_169 rfl (lv_at hl 2 rfl) ?_
          refine va_get (D := (dC, dI)) (ci := 9) (v := .int (sI z67 1001 0)) (C := RX9) (T := TX9) (N := 43) hx hb hts iX9_takeOut_9 hown hK hP 0 atModel rfl 1 (by decide) (hts (.fieldLink RX9 126 "LinkQueuesModel" "now" "I") (by decide +kernel)) (fun _ h9 => h9) rfl dX9_takeOut_170 ?_
          obtain ⟨hi_18, hwp⟩ := hwp
          obtain ⟨s19, e_s19⟩ : ∃ z, z = upI z67 1014 a1.toNatClampNeg (sI z67 1001 0) := ⟨_, rfl⟩
          refine va_iast (D := (dC, dI)) hx hb hK hP hD hS 9 1 atm14 rfl hi_18 dX9_takeOut_173 (fun H locs hP hD hS => ?_)
          rw [stm14, ← e_s19] at hP hD
          replace hwp := hwp s19 e_s19
          exact W.vret hx hb hr (fun t ht hW => ⟨⟨s19, rfl, hwp, by rw [ht]; exact hP, va_K.moved hW.alike hK, hD⟩, hS.F ht⟩) hS.2.2 dX9_takeOut_174
      · replace hwp := hwp.2 c_76
        refine lv_aload_n hx hb dX9_takeOut_79 rfl (lv_at hl 2 rfl) ?_
        refine va_get (D := (dC, dI)) (ci := 9) (v := .ref (ad 124 0)) (C := RX9) (T := TX9) (N := 43) hx hb hts iX9_takeOut_9 hown hK hP 0 atModel rfl 24 (by decide) (hts (.fieldLink RX9 77 "LinkQueuesModel" "numbers" "[I") (by decide +kernel)) (fun _ h9 => h9) rfl dX9_takeOut_80 ?_
        refine lv_iload_n hx hb dX9_takeOut_83 rfl (lv_at hl 0 rfl) ?_
        refine lv_aload_n hx hb dX9_takeOut_84 rfl (lv_at hl 2 rfl) ?_
        refine va_get (D := (dC, dI)) (ci := 9) (v := .ref (ad 124 0)) (C := RX9) (T := TX9) (N := 43) hx hb hts iX9_takeOut_9 hown hK hP 0 atModel rfl 24 (by decide) (hts (.fieldLink RX9 77 "LinkQueuesModel" "numbers" "[I") (by decide +kernel)) (fun _ h9 => h9) rfl dX9_takeOut_85 ?_
        refine lv_iload_n hx hb dX9_takeOut_88 rfl (lv_at hl 0 rfl) ?_
        refine lv_iconst (v := 1) hx hb dX9_takeOut_89 (by decide) ?_
        refine lv_iadd hx hb dX9_takeOut_90 ?_
        obtain ⟨hi_20, hwp⟩ := hwp
        refine va_iald (D := (dC, dI)) hx hb hK hP 19 1 atm24 rfl hi_20 dX9_takeOut_91 ?_
        obtain ⟨hi_21, hwp⟩ := hwp
        obtain ⟨s22, e_s22⟩ : ∃ z, z = upI z67 1024 x3_67.toNatClampNeg (sI z67 1024 (x3_67 + 1).toNatClampNeg) := ⟨_, rfl⟩
        refine va_iast (D := (dC, dI)) hx hb hK hP hD hS 19 1 atm24 rfl hi_21 dX9_takeOut_92 (fun H locs hP hD hS => ?_)
        rw [stm24, ← e_s22] at hP hD
        replace hwp := hwp s22 e_s22
        refine lv_aload_n hx hb dX9_takeOut_93 rfl (lv_at hl 2 rfl) ?_
        refine va_get (D := (dC, dI)) (ci := 9) (v := .ref (ad 125 0)) (C := RX9) (T := TX9) (N := 43) hx hb hts iX9_takeOut_9 hown hK hP 0 atModel rfl 25 (by decide) (hts (.fieldLink RX9 80 "LinkQueuesModel" "bytesOf" "[I") (by decide +kernel)) (fun _ h9 => h9) rfl dX9_takeOut_94 ?_
        refine lv_iload_n hx hb dX9_takeOut_97 rfl (lv_at hl 0 rfl) ?_
        refine lv_aload_n hx hb dX9_takeOut_98 rfl (lv_at hl 2 rfl) ?_
        refine va_get (D := (dC, dI)) (ci := 9) (v := .ref (ad 125 0)) (C := RX9) (T := TX9) (N := 43) hx hb hts iX9_takeOut_9 hown hK hP 0 atModel rfl 25 (by decide) (hts (.fieldLink RX9 80 "LinkQueuesModel" "bytesOf" "[I") (by decide +kernel)) (fun _ h9 => h9) rfl dX9_takeOut_99 ?_
        refine lv_iload_n hx hb dX9_takeOut_102 rfl (lv_at hl 0 rfl) ?_
        refine lv_iconst (v := 1) hx hb dX9_takeOut_103 (by decide) ?_
        refine lv_iadd hx hb dX9_takeOut_104 ?_
        obtain ⟨hi_23, hwp⟩ := hwp
        refine va_iald (D := (dC, dI)) hx hb hK hP 20 1 atm25 rfl hi_23 dX9_takeOut_105 ?_
        obtain ⟨hi_24, hwp⟩ := hwp
        obtain ⟨s25, e_s25⟩ : ∃ z, z = upI s22 1025 x3_67.toNatClampNeg (sI s22 1025 (x3_67 + 1).toNatClampNeg) := ⟨_, rfl⟩
        refine va_iast (D := (dC, dI)) hx hb hK hP hD hS 20 1 atm25 rfl hi_24 dX9_takeOut_106 (fun H locs hP hD hS => ?_)
        rw [stm25, ← e_s25] at hP hD
        replace hwp := hwp s25 e_s25
        refine lv_aload_n hx hb dX9_takeOut_107 rfl (lv_at hl 2 rfl) ?_
        refine va_get (D := (dC, dI)) (ci := 9) (v := .ref (ad 126 0)) (C := RX9) (T := TX9) (N := 43) hx hb hts iX9_takeOut_9 hown hK hP 0 atModel rfl 26 (by decide) (hts (.fieldLink RX9 83 "LinkQueuesModel" "times" "[I") (by decide +kernel)) (fun _ h9 => h9) rfl dX9_takeOut_108 ?_
        refine lv_iload_n hx hb dX9_takeOut_111 rfl (lv_at hl 0 rfl) ?_
        refine lv_aload_n hx hb dX9_takeOut_112 rfl (lv_at hl 2 rfl) ?_
        refine va_get (D := (dC, dI)) (ci := 9) (v := .ref (ad 126 0)) (C := RX9) (T := TX9) (N := 43) hx hb hts iX9_takeOut_9 hown hK hP 0 atModel rfl 26 (by decide) (hts (.fieldLink RX9 83 "LinkQueuesModel" "times" "[I") (by decide +kernel)) (fun _ h9 => h9) rfl dX9_takeOut_113 ?_
        refine lv_iload_n hx hb dX9_takeOut_116 rfl (lv_at hl 0 rfl) ?_
        refine lv_iconst (v := 1) hx hb dX9_takeOut_117 (by decide) ?_
        refine lv_iadd hx hb dX9_takeOut_118 ?_
        obtain ⟨hi_26, hwp⟩ := hwp
        refine va_iald (D := (dC, dI)) hx hb hK hP 21 1 atm26 rfl hi_26 dX9_takeOut_119 ?_
        obtain ⟨hi_27, hwp⟩ := hwp
        obtain ⟨s28, e_s28⟩ : ∃ z, z = upI s25 1026 x3_67.toNatClampNeg (sI s25 1026 (x3_67 + 1).toNatClampNeg) := ⟨_, rfl⟩
        refine va_iast (D := (dC, dI)) hx hb hK hP hD hS 21 1 atm26 rfl hi_27 dX9_takeOut_120 (fun H locs hP hD hS => ?_)
        rw [stm26, ← e_s28] at hP hD
        replace hwp := hwp s28 e_s28
        refine lv_aload_n hx hb dX9_takeOut_121 rfl (lv_at hl 2 rfl) ?_
        refine va_get (D := (dC, dI)) (ci := 9) (v := .ref (ad 127 0)) (C := RX9) (T := TX9) (N := 43) hx hb hts iX9_takeOut_9 hown hK hP 0 atModel rfl 27 (by decide) (hts (.fieldLink RX9 86 "LinkQueuesModel" "markable" "[Z") (by decide +kernel)) (fun _ h9 => h9) rfl dX9_takeOut_122 ?_
        refine lv_iload_n hx hb dX9_takeOut_125 rfl (lv_at hl 0 rfl) ?_
        refine lv_aload_n hx hb dX9_takeOut_126 rfl (lv_at hl 2 rfl) ?_
        refine va_get (D := (dC, dI)) (ci := 9) (v := .ref (ad 127 0)) (C := RX9) (T := TX9) (N := 43) hx hb hts iX9_takeOut_9 hown hK hP 0 atModel rfl 27 (by decide) (hts (.fieldLink RX9 86 "LinkQueuesModel" "markable" "[Z") (by decide +kernel)) (fun _ h9 => h9) rfl dX9_takeOut_127 ?_
        refine lv_iload_n hx hb dX9_takeOut_130 rfl (lv_at hl 0 rfl) ?_
        refine lv_iconst (v := 1) hx hb dX9_takeOut_131 (by decide) ?_
        refine lv_iadd hx hb dX9_takeOut_132 ?_
        obtain ⟨hi_29, hwp⟩ := hwp
        refine va_zald (D := (dC, dI)) hx hb hK hP 22 2 atm27 rfl hi_29 dX9_takeOut_133 ?_
        obtain ⟨hi_30, hwp⟩ := hwp
        obtain ⟨s31, e_s31⟩ : ∃ z, z = upI s28 1027 x3_67.toNatClampNeg (sI s28 1027 (x3_67 + 1).toNatClampNeg) := ⟨_, rfl⟩
        obtain ⟨hB_32, hwp⟩ := hwp
        refine va_zast (D := (dC, dI)) hx hb hK hP hD hS 22 2 atm27 rfl hi_30 dX9_takeOut_134 (fun H locs hP hD hS => ?_)
        rw [isB_vp hB_32] at hP hD
        rw [stm27, ← e_s31] at hP hD
        replace hwp := hwp s31 e_s31
        refine lv_aload_n hx hb dX9_takeOut_135 rfl (lv_at hl 2 rfl) ?_
        refine va_get (D := (dC, dI)) (ci := 9) (v := .ref (ad 128 0)) (C := RX9) (T := TX9) (N := 43) hx hb hts iX9_takeOut_9 hown hK hP 0 atModel rfl 28 (by decide) (hts (.fieldLink RX9 89 "LinkQueuesModel" "marked" "[Z") (by decide +kernel)) (fun _ h9 => h9) rfl dX9_takeOut_136 ?_
        refine lv_iload_n hx hb dX9_takeOut_139 rfl (lv_at hl 0 rfl) ?_
        refine lv_aload_n hx hb dX9_takeOut_140 rfl (lv_at hl 2 rfl) ?_
        refine va_get (D := (dC, dI)) (ci := 9) (v := .ref (ad 128 0)) (C := RX9) (T := TX9) (N := 43) hx hb hts iX9_takeOut_9 hown hK hP 0 atModel rfl 28 (by decide) (hts (.fieldLink RX9 89 "LinkQueuesModel" "marked" "[Z") (by decide +kernel)) (fun _ h9 => h9) rfl dX9_takeOut_141 ?_
        refine lv_iload_n hx hb dX9_takeOut_144 rfl (lv_at hl 0 rfl) ?_
        refine lv_iconst (v := 1) hx hb dX9_takeOut_145 (by decide) ?_
        refine lv_iadd hx hb dX9_takeOut_146 ?_
        obtain ⟨hi_33, hwp⟩ := hwp
        refine va_zald (D := (dC, dI)) hx hb hK hP 23 2 atm28 rfl hi_33 dX9_takeOut_147 ?_
        obtain ⟨hi_34, hwp⟩ := hwp
        obtain ⟨s35, e_s35⟩ : ∃ z, z = upI s31 1028 x3_67.toNatClampNeg (sI s31 1028 (x3_67 + 1).toNatClampNeg) := ⟨_, rfl⟩
        obtain ⟨hB_36, hwp⟩ := hwp
        refine va_zast (D := (dC, dI)) hx hb hK hP hD hS 23 2 atm28 rfl hi_34 dX9_takeOut_148 (fun H locs hP hD hS => ?_)
        rw [isB_vp hB_36] at hP hD
        rw [stm28, ← e_s35] at hP hD
        replace hwp := hwp s35 e_s35
        refine lv_iinc (v := (x3_67 + 1)) (lv' := [(3, .int (x3_67 + 1)), (2, .int (100 * a1)), (0, .ref (ad 9 0)), (1, .int a1)]) hx hb dX9_takeOut_149 hl (k := 0) rfl rfl (by decide) rfl (fun ls hl => ?_)
        refine lv_goto (tgt := 67) hx hb dX9_takeOut_152 (by decide) ?_
        exact ih67 s35 (x3_67 + 1) hwp _ _ _ hP hD hS (lv_sub hl [0, 1, 2, 3] rfl)
  exact L67 n67 s15 (100 * a1) hwp _ _ _ hP hD hS (lv_sub hl [0, 1, 2, 3] rfl)
def wp_X9_root_L5 (a0 : Int32) (K : UInt64 → ST → Prop) : Nat → ST → Int32 → UInt64 → Prop
  | 0 => fun _ _ _ => False
  | fu5 + 1 => fun z5 x3_5 x1_5 => ((20 ≤ x3_5 → (K x1_5 z5)) ∧ (¬ (20 ≤ x3_5) → (vf_n64 (FP.ddiv (FP.i2d a0) x1_5) ∧
vf_n64 (FP.dadd x1_5 (FP.ddiv (FP.i2d a0) x1_5)) ∧
vf_n64 (FP.ddiv (FP.dadd x1_5 (FP.ddiv (FP.i2d a0) x1_5)) 4611686018427387904) ∧
wp_X9_root_L5 a0 K fu5 z5 (x3_5 + 1) (FP.ddiv (FP.dadd x1_5 (FP.ddiv (FP.i2d a0) x1_5)) 4611686018427387904))))
def wp_X9_root (σ : ST) (a0 : Int32) (K : UInt64 → ST → Prop) : Prop := ∃ n5, wp_X9_root_L5 a0 K n5 σ 0 (FP.i2d a0)
set_option maxHeartbeats 8000000 in
set_option maxRecDepth 100000 in
theorem c_X9_root (l : Launch) (dC : Nat → ClassId) (dI : Nat → Nat → Nat) (cA : Nat → ClassId) (ad : Nat → Nat → Nat) (σ : ST) (a0 : Int32) (sz : Nat) (K : UInt64 → ST → Prop) (hwp : wp_X9_root σ a0 K) : Met l yX9_root wsX9_root ({ frames := 0, cells := 0, slots := 0, locals := 0 } : Room) (va_Pc [.int a0] (preC dC dI cA (Wm cA ad σ) sz)) (va_Qd K (atC dC dI cA (Wm cA ad) (va_A (Wm cA ad σ) sz)) (va_A (Wm cA ad σ) sz)) 0 0 (va_A (Wm cA ad σ) sz) := by
  refine Met.ofW (cc := cX9_root) (maxL := 4) (ret := (some .double)) (by decide) rfl ?_
  intro p e s m args below meth c s₁ B hml hv
  obtain ⟨rfl, hsz, hP, hK, hD0⟩ := hv
  have hx := B.exec
  have hb := B.bytes
  have hr := B.returns
  have hts := atoms_spec (ws := wsX9_root) B.pre
  have hown : s.vm.findClass RX9 = some m.cls := findClass_of_methodNamed B.named
  have hlocks := B.notSynchronized
  subst hsz
  have hD := hD0.self (sz := s.heap.size)
  clear hD0
  generalize hAe : va_A (Wm cA ad σ) s.heap.size = A at hD ⊢
  have hA : ∀ q : Nat, s.heap.size ≤ q → A q := fun q h => by rw [← hAe]; exact Or.inr h
  have hS : va_S A s.heap s.heap [] := va_S.rf
  have hkc : 0 ≤ 0 := Nat.le_refl 0
  have hks : 0 ≤ 0 := Nat.le_refl 0
  have hl := lv_entry ([.int a0]) (n := 4) (Nat.le_of_ble_eq_true rfl)
  rw [lg_entry_eq]
  generalize (lg_sl ([.int a0]) ++ List.replicate (4 - (lg_sl ([.int a0])).length) Slot.unset).toArray = ls at hl ⊢
  have hl : lv_has ls 4 [(0, .int a0)] := hl
  unfold wp_X9_root at hwp
  generalize hHe : s.heap = H at hP ⊢
  have hS : va_S A s.heap H [] := by rw [← hHe]; exact va_S.rf
  clear hHe
  refine lv_iload_n hx hb dX9_root_0 rfl (lv_at hl 0 rfl) ?_
  refine lv_i2d hx hb dX9_root_1 ?_
  refine lv_dstore_n (lv' := [(1, .double (FP.i2d a0)), (0, .int a0)]) hx hb dX9_root_2 rfl hl (by decide) rfl (fun ls hl => ?_)
  refine lv_iconst (v := 0) hx hb dX9_root_3 (by decide) ?_
  refine lv_istore_n (lv' := [(3, .int 0), (1, .double (FP.i2d a0)), (0, .int a0)]) hx hb dX9_root_4 rfl hl (by decide) rfl (fun ls hl => ?_)
  obtain ⟨n5, hwp⟩ := hwp
  have L5 : ∀ (fu5 : Nat) (z5 : ST) (x3_5 : Int32) (x1_5 : UInt64), wp_X9_root_L5 a0 K fu5 z5 x3_5 x1_5 → ∀ (H : Heap) (locs : List Loc) (ls : Array Slot), va_P (dC, dI) vwCl (Wm cA ad z5) H → va_D A (Wm cA ad z5) → va_S A s.heap H locs → lv_has ls 4 [(3, .int x3_5), (1, .double x1_5), (0, .int a0)] → W p l e ({ frames := 0, cells := 0, slots := 0, locals := 0 } : Room) s m ([.int a0] : List Value).toArray below meth c H locs 0 0 (MQ below (va_Qd K (atC dC dI cA (Wm cA ad) A) A) ([.int a0] : List Value).toArray s 0 0 A) (F0 m 5 ls []) := by
    intro fu5
    induction fu5 with
    | zero => intro z5 x3_5 x1_5 h; exact h.elim
    | succ fu5 ih5 =>
      intro z5 x3_5 x1_5 hwp H locs ls hP hD hS hl
      refine lv_iload_n hx hb dX9_root_5 rfl (lv_at hl 0 rfl) ?_
      refine lv_bipush (v := 20) hx hb dX9_root_6 (by decide) ?_
      refine lv_icmp_ge (tgt := 28) hx hb dX9_root_8 (by decide) (fun c_8 => ?_) (fun c_8 => ?_)
      · replace hwp := hwp.1 c_8
        refine lv_dload_n hx hb dX9_root_28 rfl (lv_at hl 1 rfl) ?_
        exact W.dret (v := x1_5) hx hb hr (fun t ht hW => ⟨⟨x1_5, z5, rfl, hwp, by rw [ht]; exact hP, va_K.moved hW.alike hK, hD⟩, hS.F ht⟩) hS.2.2 dX9_root_29
      · replace hwp := hwp.2 c_8
        refine lv_dload_n hx hb dX9_root_11 rfl (lv_at hl 1 rfl) ?_
        refine lv_iload_n hx hb dX9_root_12 rfl (lv_at hl 2 rfl) ?_
        refine lv_i2d hx hb dX9_root_13 ?_
        refine lv_dload_n hx hb dX9_root_14 rfl (lv_at hl 1 rfl) ?_
        refine lv_ddiv hx hb dX9_root_15 hwp.1 ?_
        replace hwp := hwp.2
        refine lv_dadd hx hb dX9_root_16 hwp.1 ?_
        replace hwp := hwp.2
        refine lv_ldc2d (v := 4611686018427387904) hx hb hown (hts (.constantDouble RX9 177 (4611686018427387904)) (by decide +kernel)) dX9_root_17 ?_
        refine lv_ddiv hx hb dX9_root_20 hwp.1 ?_
        replace hwp := hwp.2
        refine lv_dstore_n (lv' := [(1, .double (FP.ddiv (FP.dadd x1_5 (FP.ddiv (FP.i2d a0) x1_5)) 4611686018427387904)), (3, .int x3_5), (0, .int a0)]) hx hb dX9_root_21 rfl hl (by decide) rfl (fun ls hl => ?_)
        refine lv_iinc (v := (x3_5 + 1)) (lv' := [(3, .int (x3_5 + 1)), (1, .double (FP.ddiv (FP.dadd x1_5 (FP.ddiv (FP.i2d a0) x1_5)) 4611686018427387904)), (0, .int a0)]) hx hb dX9_root_22 hl (k := 1) rfl rfl (by decide) rfl (fun ls hl => ?_)
        refine lv_goto (tgt := 5) hx hb dX9_root_25 (by decide) ?_
        exact ih5 z5 (x3_5 + 1) (FP.ddiv (FP.dadd x1_5 (FP.ddiv (FP.i2d a0) x1_5)) 4611686018427387904) hwp _ _ _ hP hD hS (lv_sub hl [0, 1, 2] rfl)
  exact L5 n5 σ 0 (FP.i2d a0) hwp _ _ _ hP hD hS (lv_sub hl [0, 1, 2] rfl)
def wp_X9_isHit_J244 (a1 : Int32) (σ : ST) (K : Int32 → ST → Prop) (z244 : ST) (y0_244 : Int32) : Prop := vp_in a1 6 ∧
∀ s8, s8 = upI z244 1021 a1.toNatClampNeg y0_244 →
vp_in a1 6 ∧
vp_in a1 6 ∧
∀ s11, s11 = upI s8 1022 a1.toNatClampNeg (sI s8 1021 a1.toNatClampNeg) →
vp_in a1 6 ∧
vp_in a1 6 ∧
wp_X9_root s11 (sI s11 1021 a1.toNatClampNeg) (fun r15 s14 =>
vf_n64 (FP.ddiv (sD s11 1016 a1.toNatClampNeg) r15) ∧
vf_n64 (FP.dadd (FP.i2d (sI σ 1001 0)) (FP.ddiv (sD s11 1016 a1.toNatClampNeg) r15)) ∧
vp_in a1 6 ∧
∀ s17, s17 = upD s14 1020 a1.toNatClampNeg (FP.dadd (FP.i2d (sI σ 1001 0)) (FP.ddiv (sD s11 1016 a1.toNatClampNeg) r15)) →
K 1 s17
)
def wp_X9_isHit_J243 (a1 : Int32) (σ : ST) (K : Int32 → ST → Prop) (G244 : ST → Int32 → Prop) (z243 : ST) : Prop := G244 z243 1
def wp_X9_isHit_J99 (a1 : Int32) (σ : ST) (K : Int32 → ST → Prop) (z99 : ST) (x4_99 : Int32) : Prop := vp_in a1 6 ∧
(((sI z99 1019 a1.toNatClampNeg) = 0 → (((¬ x4_99 = 0 → (vp_in a1 6 ∧
∀ s4, s4 = upI z99 1019 a1.toNatClampNeg 1 →
vp_in a1 6 ∧
vp_in a1 6 ∧
((((sI s4 1021 a1.toNatClampNeg) - (sI s4 1022 a1.toNatClampNeg)) ≤ 1 → (wp_X9_isHit_J243 a1 σ K (wp_X9_isHit_J244 a1 σ K) s4)) ∧ (¬ (((sI s4 1021 a1.toNatClampNeg) - (sI s4 1022 a1.toNatClampNeg)) ≤ 1) → (vp_in a1 6 ∧
vf_n64 (FP.dsub (FP.i2d (sI σ 1001 0)) (sD s4 1020 a1.toNatClampNeg)) ∧
vp_in a1 6 ∧
vf_n64 (FP.dmul 4625196817309499392 (sD s4 1016 a1.toNatClampNeg)) ∧
((0 ≤ (Op.cmpValue (FP.dcmp (FP.dsub (FP.i2d (sI σ 1001 0)) (sD s4 1020 a1.toNatClampNeg)) (FP.dmul 4625196817309499392 (sD s4 1016 a1.toNatClampNeg))) .g) → (wp_X9_isHit_J243 a1 σ K (wp_X9_isHit_J244 a1 σ K) s4)) ∧ (¬ (0 ≤ (Op.cmpValue (FP.dcmp (FP.dsub (FP.i2d (sI σ 1001 0)) (sD s4 1020 a1.toNatClampNeg)) (FP.dmul 4625196817309499392 (sD s4 1016 a1.toNatClampNeg))) .g)) → (wp_X9_isHit_J244 a1 σ K s4 ((sI s4 1021 a1.toNatClampNeg) - (sI s4 1022 a1.toNatClampNeg)))))))))) ∧ (x4_99 = 0 → (K 0 z99))))) ∧ (¬ ((sI z99 1019 a1.toNatClampNeg) = 0) → (((¬ x4_99 = 0 → (vp_in a1 6 ∧
((0 ≤ (Op.cmpValue (FP.dcmp (FP.i2d (sI σ 1001 0)) (sD z99 1020 a1.toNatClampNeg)) .g) → (vp_in a1 6 ∧
vp_in a1 6 ∧
∀ s23, s23 = upI z99 1021 a1.toNatClampNeg ((sI z99 1021 a1.toNatClampNeg) + 1) →
vp_in a1 6 ∧
vp_in a1 6 ∧
vp_in a1 6 ∧
wp_X9_root s23 (sI s23 1021 a1.toNatClampNeg) (fun r28 s27 =>
vf_n64 (FP.ddiv (sD s23 1016 a1.toNatClampNeg) r28) ∧
vf_n64 (FP.dadd (sD s23 1020 a1.toNatClampNeg) (FP.ddiv (sD s23 1016 a1.toNatClampNeg) r28)) ∧
vp_in a1 6 ∧
∀ s30, s30 = upD s27 1020 a1.toNatClampNeg (FP.dadd (sD s23 1020 a1.toNatClampNeg) (FP.ddiv (sD s23 1016 a1.toNatClampNeg) r28)) →
K 1 s30
))) ∧ (¬ (0 ≤ (Op.cmpValue (FP.dcmp (FP.i2d (sI σ 1001 0)) (sD z99 1020 a1.toNatClampNeg)) .g)) → (K 0 z99))))) ∧ (x4_99 = 0 → (vp_in a1 6 ∧
∀ s32, s32 = upI z99 1019 a1.toNatClampNeg 0 →
K 0 s32))))))
def wp_X9_isHit_J38 (a1 : Int32) (σ : ST) (K : Int32 → ST → Prop) (G99 : ST → Int32 → Prop) (z38 : ST) : Prop := vp_in a1 6 ∧
∀ s34, s34 = upI z38 1018 a1.toNatClampNeg 0 →
G99 s34 0
def wp_X9_isHit_J97 (a1 : Int32) (σ : ST) (K : Int32 → ST → Prop) (G38 : ST → Prop) (G99 : ST → Int32 → Prop) (z97 : ST) (y0_97 : Int32) : Prop := G99 z97 y0_97
def wp_X9_isHit (σ : ST) (a1 : Int32) (K : Int32 → ST → Prop) : Prop := vp_in a1 6 ∧
(((Op.cmpValue (FP.dcmp (FP.i2d ((sI σ 1001 0) - (sI σ 1040 0))) (sD σ 1015 a1.toNatClampNeg)) .g) < 0 → (wp_X9_isHit_J38 a1 σ K (wp_X9_isHit_J99 a1 σ K) σ)) ∧ (¬ ((Op.cmpValue (FP.dcmp (FP.i2d ((sI σ 1001 0) - (sI σ 1040 0))) (sD σ 1015 a1.toNatClampNeg)) .g) < 0) → (vp_in a1 6 ∧
((¬ (sI σ 1023 a1.toNatClampNeg) = 0 → (vp_in a1 6 ∧
((¬ (sI σ 1018 a1.toNatClampNeg) = 0 → (vp_in a1 6 ∧
(((Op.cmpValue (FP.dcmp (FP.i2d (sI σ 1001 0)) (sD σ 1017 a1.toNatClampNeg)) .l) < 0 → (wp_X9_isHit_J97 a1 σ K (wp_X9_isHit_J38 a1 σ K (wp_X9_isHit_J99 a1 σ K)) (wp_X9_isHit_J99 a1 σ K) σ 0)) ∧ (¬ ((Op.cmpValue (FP.dcmp (FP.i2d (sI σ 1001 0)) (sD σ 1017 a1.toNatClampNeg)) .l) < 0) → (wp_X9_isHit_J97 a1 σ K (wp_X9_isHit_J38 a1 σ K (wp_X9_isHit_J99 a1 σ K)) (wp_X9_isHit_J99 a1 σ K) σ 1))))) ∧ ((sI σ 1018 a1.toNatClampNeg) = 0 → (vp_in a1 6 ∧
∀ s39, s39 = upI σ 1018 a1.toNatClampNeg 1 →
vp_in a1 6 ∧
vf_n64 (FP.dadd (FP.i2d (sI σ 1001 0)) (sD s39 1016 a1.toNatClampNeg)) ∧
vp_in a1 6 ∧
∀ s42, s42 = upD s39 1017 a1.toNatClampNeg (FP.dadd (FP.i2d (sI σ 1001 0)) (sD s39 1016 a1.toNatClampNeg)) →
wp_X9_isHit_J99 a1 σ K s42 0))))) ∧ ((sI σ 1023 a1.toNatClampNeg) = 0 → (wp_X9_isHit_J38 a1 σ K (wp_X9_isHit_J99 a1 σ K) σ))))))
set_option maxRecDepth 20000 in
theorem iX9_isHit_9 : ∀ w ∈ wsX90, w ∈ wsX9_isHit := by decide +kernel
set_option maxHeartbeats 8000000 in
set_option maxRecDepth 100000 in
theorem c_X9_isHit (l : Launch) (dC : Nat → ClassId) (dI : Nat → Nat → Nat) (cA : Nat → ClassId) (ad : Nat → Nat → Nat) (σ : ST) (a1 : Int32) (sz : Nat) (K : Int32 → ST → Prop) (hwp : wp_X9_isHit σ a1 K) : Met l yX9_isHit wsX9_isHit ({ frames := 1, cells := 0, slots := 0, locals := 23 } : Room) (va_Pc [.ref (ad 9 0), .int a1] (preC dC dI cA (Wm cA ad σ) sz)) (va_Qi K (atC dC dI cA (Wm cA ad) (va_A (Wm cA ad σ) sz)) (va_A (Wm cA ad σ) sz)) 0 0 (va_A (Wm cA ad σ) sz) := by
  refine Met.ofW (cc := cX9_isHit) (maxL := 6) (ret := (some .boolean)) (by decide) rfl ?_
  intro p e s m args below meth c s₁ B hml hv
  obtain ⟨rfl, hsz, hP, hK, hD0⟩ := hv
  have hx := B.exec
  have hb := B.bytes
  have hr := B.returns
  have hts := atoms_spec (ws := wsX9_isHit) B.pre
  have hown : s.vm.findClass RX9 = some m.cls := findClass_of_methodNamed B.named
  have hlocks := B.notSynchronized
  subst hsz
  have hD := hD0.self (sz := s.heap.size)
  clear hD0
  generalize hAe : va_A (Wm cA ad σ) s.heap.size = A at hD ⊢
  have hA : ∀ q : Nat, s.heap.size ≤ q → A q := fun q h => by rw [← hAe]; exact Or.inr h
  have hS : va_S A s.heap s.heap [] := va_S.rf
  have hkc : 0 ≤ 0 := Nat.le_refl 0
  have hks : 0 ≤ 0 := Nat.le_refl 0
  have hl := lv_entry ([.ref (ad 9 0), .int a1]) (n := 6) (Nat.le_of_ble_eq_true rfl)
  rw [lg_entry_eq]
  generalize (lg_sl ([.ref (ad 9 0), .int a1]) ++ List.replicate (6 - (lg_sl ([.ref (ad 9 0), .int a1])).length) Slot.unset).toArray = ls at hl ⊢
  have hl : lv_has ls 6 [(0, .ref (ad 9 0)), (1, .int a1)] := hl
  unfold wp_X9_isHit at hwp
  generalize hHe : s.heap = H at hP ⊢
  have hS : va_S A s.heap H [] := by rw [← hHe]; exact va_S.rf
  clear hHe
  refine lv_aload_n hx hb dX9_isHit_0 rfl (lv_at hl 0 rfl) ?_
  refine va_get (D := (dC, dI)) (ci := 9) (v := .int (sI σ 1001 0)) (C := RX9) (T := TX9) (N := 43) hx hb hts iX9_isHit_9 hown hK hP 0 atModel rfl 1 (by decide) (hts (.fieldLink RX9 126 "LinkQueuesModel" "now" "I") (by decide +kernel)) (fun _ h9 => h9) rfl dX9_isHit_1 ?_
  refine lv_i2d hx hb dX9_isHit_4 ?_
  refine lv_dstore_n (lv' := [(2, .double (FP.i2d (sI σ 1001 0))), (0, .ref (ad 9 0)), (1, .int a1)]) hx hb dX9_isHit_5 rfl hl (by decide) rfl (fun ls hl => ?_)
  refine lv_iconst (v := 0) hx hb dX9_isHit_6 (by decide) ?_
  refine lv_istore (lv' := [(4, .int 0), (2, .double (FP.i2d (sI σ 1001 0))), (0, .ref (ad 9 0)), (1, .int a1)]) hx hb dX9_isHit_7 hl (by decide) rfl (fun ls hl => ?_)
  refine lv_aload_n hx hb dX9_isHit_9 rfl (lv_at hl 2 rfl) ?_
  refine va_get (D := (dC, dI)) (ci := 9) (v := .int (sI σ 1001 0)) (C := RX9) (T := TX9) (N := 43) hx hb hts iX9_isHit_9 hown hK hP 0 atModel rfl 1 (by decide) (hts (.fieldLink RX9 126 "LinkQueuesModel" "now" "I") (by decide +kernel)) (fun _ h9 => h9) rfl dX9_isHit_10 ?_
  refine lv_aload_n hx hb dX9_isHit_13 rfl (lv_at hl 2 rfl) ?_
  refine va_get (D := (dC, dI)) (ci := 9) (v := .int (sI σ 1040 0)) (C := RX9) (T := TX9) (N := 43) hx hb hts iX9_isHit_9 hown hK hP 0 atModel rfl 40 (by decide) (hts (.fieldLink RX9 167 "LinkQueuesModel" "outTime" "I") (by decide +kernel)) (fun _ h9 => h9) rfl dX9_isHit_14 ?_
  refine lv_isub hx hb dX9_isHit_17 ?_
  refine lv_i2d hx hb dX9_isHit_18 ?_
  refine lv_aload_n hx hb dX9_isHit_19 rfl (lv_at hl 2 rfl) ?_
  refine va_get (D := (dC, dI)) (ci := 9) (v := .ref (ad 115 0)) (C := RX9) (T := TX9) (N := 43) hx hb hts iX9_isHit_9 hown hK hP 0 atModel rfl 15 (by decide) (hts (.fieldLink RX9 49 "LinkQueuesModel" "target" "[D") (by decide +kernel)) (fun _ h9 => h9) rfl dX9_isHit_20 ?_
  refine lv_iload_n hx hb dX9_isHit_23 rfl (lv_at hl 3 rfl) ?_
  obtain ⟨hi_1, hwp⟩ := hwp
  refine va_dald (D := (dC, dI)) hx hb hK hP 10 0 atm15 rfl hi_1 dX9_isHit_24 ?_
  refine lv_dcmp hx hb dX9_isHit_25 ?_
  have J99 : ∀ (z99 : ST) (x4_99 : Int32), wp_X9_isHit_J99 a1 σ K z99 x4_99 → ∀ (H : Heap) (locs : List Loc) (ls : Array Slot), va_P (dC, dI) vwCl (Wm cA ad z99) H → va_D A (Wm cA ad z99) → va_S A s.heap H locs → lv_has ls 6 [(4, .int x4_99), (2, .double (FP.i2d (sI σ 1001 0))), (0, .ref (ad 9 0)), (1, .int a1)] → W p l e ({ frames := 1, cells := 0, slots := 0, locals := 23 } : Room) s m ([.ref (ad 9 0), .int a1] : List Value).toArray below meth c H locs 0 0 (MQ below (va_Qi K (atC dC dI cA (Wm cA ad) A) A) ([.ref (ad 9 0), .int a1] : List Value).toArray s 0 0 A) (F0 m 99 ls []) := by
    intro z99 x4_99 hwp H locs ls hP hD hS hl
    refine lv_aload_n hx hb dX9_isHit_99 rfl (lv_at hl 2 rfl) ?_
    refine va_get (D := (dC, dI)) (ci := 9) (v := .ref (ad 119 0)) (C := RX9) (T := TX9) (N := 43) hx hb hts iX9_isHit_9 hown hK hP 0 atModel rfl 19 (by decide) (hts (.fieldLink RX9 62 "LinkQueuesModel" "drops" "[Z") (by decide +kernel)) (fun _ h9 => h9) rfl dX9_isHit_100 ?_
    refine lv_iload_n hx hb dX9_isHit_103 rfl (lv_at hl 3 rfl) ?_
    obtain ⟨hi_2, hwp⟩ := hwp
    refine va_zald (D := (dC, dI)) hx hb hK hP 14 2 atm19 rfl hi_2 dX9_isHit_104 ?_
    refine lv_if_eq (tgt := 176) hx hb dX9_isHit_105 (by decide) (fun c_105 => ?_) (fun c_105 => ?_)
    · replace hwp := hwp.1 c_105
      refine lv_iload hx hb dX9_isHit_176 (lv_at hl 0 rfl) ?_
      refine lv_if_ne (tgt := 183) hx hb dX9_isHit_178 (by decide) (fun c_178 => ?_) (fun c_178 => ?_)
      · replace hwp := hwp.1 c_178
        refine lv_aload_n hx hb dX9_isHit_183 rfl (lv_at hl 2 rfl) ?_
        refine va_get (D := (dC, dI)) (ci := 9) (v := .ref (ad 119 0)) (C := RX9) (T := TX9) (N := 43) hx hb hts iX9_isHit_9 hown hK hP 0 atModel rfl 19 (by decide) (hts (.fieldLink RX9 62 "LinkQueuesModel" "drops" "[Z") (by decide +kernel)) (fun _ h9 => h9) rfl dX9_isHit_184 ?_
        refine lv_iload_n hx hb dX9_isHit_187 rfl (lv_at hl 3 rfl) ?_
        refine lv_iconst (v := 1) hx hb dX9_isHit_188 (by decide) ?_
        obtain ⟨hi_3, hwp⟩ := hwp
        obtain ⟨s4, e_s4⟩ : ∃ z, z = upI z99 1019 a1.toNatClampNeg 1 := ⟨_, rfl⟩
        refine va_zast (D := (dC, dI)) hx hb hK hP hD hS 14 2 atm19 rfl hi_3 dX9_isHit_189 (fun H locs hP hD hS => ?_)
        rw [isB_vp isB1] at hP hD
        rw [stm19, ← e_s4] at hP hD
        replace hwp := hwp s4 e_s4
        refine lv_aload_n hx hb dX9_isHit_190 rfl (lv_at hl 2 rfl) ?_
        refine va_get (D := (dC, dI)) (ci := 9) (v := .ref (ad 121 0)) (C := RX9) (T := TX9) (N := 43) hx hb hts iX9_isHit_9 hown hK hP 0 atModel rfl 21 (by decide) (hts (.fieldLink RX9 68 "LinkQueuesModel" "delayCount" "[I") (by decide +kernel)) (fun _ h9 => h9) rfl dX9_isHit_191 ?_
        refine lv_iload_n hx hb dX9_isHit_194 rfl (lv_at hl 3 rfl) ?_
        obtain ⟨hi_5, hwp⟩ := hwp
        refine va_iald (D := (dC, dI)) hx hb hK hP 16 1 atm21 rfl hi_5 dX9_isHit_195 ?_
        refine lv_aload_n hx hb dX9_isHit_196 rfl (lv_at hl 2 rfl) ?_
        refine va_get (D := (dC, dI)) (ci := 9) (v := .ref (ad 122 0)) (C := RX9) (T := TX9) (N := 43) hx hb hts iX9_isHit_9 hown hK hP 0 atModel rfl 22 (by decide) (hts (.fieldLink RX9 71 "LinkQueuesModel" "lastCount" "[I") (by decide +kernel)) (fun _ h9 => h9) rfl dX9_isHit_197 ?_
        refine lv_iload_n hx hb dX9_isHit_200 rfl (lv_at hl 3 rfl) ?_
        obtain ⟨hi_6, hwp⟩ := hwp
        refine va_iald (D := (dC, dI)) hx hb hK hP 17 1 atm22 rfl hi_6 dX9_isHit_201 ?_
        refine lv_isub hx hb dX9_isHit_202 ?_
        refine lv_istore (lv' := [(5, .int ((sI s4 1021 a1.toNatClampNeg) - (sI s4 1022 a1.toNatClampNeg))), (4, .int x4_99), (2, .double (FP.i2d (sI σ 1001 0))), (0, .ref (ad 9 0)), (1, .int a1)]) hx hb dX9_isHit_203 hl (by decide) rfl (fun ls hl => ?_)
        refine lv_aload_n hx hb dX9_isHit_205 rfl (lv_at hl 3 rfl) ?_
        refine va_get (D := (dC, dI)) (ci := 9) (v := .ref (ad 121 0)) (C := RX9) (T := TX9) (N := 43) hx hb hts iX9_isHit_9 hown hK hP 0 atModel rfl 21 (by decide) (hts (.fieldLink RX9 68 "LinkQueuesModel" "delayCount" "[I") (by decide +kernel)) (fun _ h9 => h9) rfl dX9_isHit_206 ?_
        refine lv_iload_n hx hb dX9_isHit_209 rfl (lv_at hl 4 rfl) ?_
        refine lv_iload hx hb dX9_isHit_210 (lv_at hl 0 rfl) ?_
        refine lv_iconst (v := 1) hx hb dX9_isHit_212 (by decide) ?_
        have J244 : ∀ (z244 : ST) (y0_244 : Int32), wp_X9_isHit_J244 a1 σ K z244 y0_244 → ∀ (H : Heap) (locs : List Loc) (ls : Array Slot), va_P (dC, dI) vwCl (Wm cA ad z244) H → va_D A (Wm cA ad z244) → va_S A s.heap H locs → lv_has ls 6 [(2, .double (FP.i2d (sI σ 1001 0))), (0, .ref (ad 9 0)), (1, .int a1)] → W p l e ({ frames := 1, cells := 0, slots := 0, locals := 23 } : Room) s m ([.ref (ad 9 0), .int a1] : List Value).toArray below meth c H locs 0 0 (MQ below (va_Qi K (atC dC dI cA (Wm cA ad) A) A) ([.ref (ad 9 0), .int a1] : List Value).toArray s 0 0 A) (F0 m 244 ls [.int y0_244, .int a1, .ref (ad 121 0)]) := by
          intro z244 y0_244 hwp H locs ls hP hD hS hl
          obtain ⟨hi_7, hwp⟩ := hwp
          obtain ⟨s8, e_s8⟩ : ∃ z, z = upI z244 1021 a1.toNatClampNeg y0_244 := ⟨_, rfl⟩
          refine va_iast (D := (dC, dI)) hx hb hK hP hD hS 16 1 atm21 rfl hi_7 dX9_isHit_244 (fun H locs hP hD hS => ?_)
          rw [stm21, ← e_s8] at hP hD
          replace hwp := hwp s8 e_s8
          refine lv_aload_n hx hb dX9_isHit_245 rfl (lv_at hl 1 rfl) ?_
          refine va_get (D := (dC, dI)) (ci := 9) (v := .ref (ad 122 0)) (C := RX9) (T := TX9) (N := 43) hx hb hts iX9_isHit_9 hown hK hP 0 atModel rfl 22 (by decide) (hts (.fieldLink RX9 71 "LinkQueuesModel" "lastCount" "[I") (by decide +kernel)) (fun _ h9 => h9) rfl dX9_isHit_246 ?_
          refine lv_iload_n hx hb dX9_isHit_249 rfl (lv_at hl 2 rfl) ?_
          refine lv_aload_n hx hb dX9_isHit_250 rfl (lv_at hl 1 rfl) ?_
          refine va_get (D := (dC, dI)) (ci := 9) (v := .ref (ad 121 0)) (C := RX9) (T := TX9) (N := 43) hx hb hts iX9_isHit_9 hown hK hP 0 atModel rfl 21 (by decide) (hts (.fieldLink RX9 68 "LinkQueuesModel" "delayCount" "[I") (by decide +kernel)) (fun _ h9 => h9) rfl dX9_isHit_251 ?_
          refine lv_iload_n hx hb dX9_isHit_254 rfl (lv_at hl 2 rfl) ?_
          obtain ⟨hi_9, hwp⟩ := hwp
          refine va_iald (D := (dC, dI)) hx hb hK hP 16 1 atm21 rfl hi_9 dX9_isHit_255 ?_
          obtain ⟨hi_10, hwp⟩ := hwp
          obtain ⟨s11, e_s11⟩ : ∃ z, z = upI s8 1022 a1.toNatClampNeg (sI s8 1021 a1.toNatClampNeg) := ⟨_, rfl⟩
          refine va_iast (D := (dC, dI)) hx hb hK hP hD hS 17 1 atm22 rfl hi_10 dX9_isHit_256 (fun H locs hP hD hS => ?_)
          rw [stm22, ← e_s11] at hP hD
          replace hwp := hwp s11 e_s11
          refine lv_aload_n hx hb dX9_isHit_257 rfl (lv_at hl 1 rfl) ?_
          refine va_get (D := (dC, dI)) (ci := 9) (v := .ref (ad 120 0)) (C := RX9) (T := TX9) (N := 43) hx hb hts iX9_isHit_9 hown hK hP 0 atModel rfl 20 (by decide) (hts (.fieldLink RX9 65 "LinkQueuesModel" "nextTime" "[D") (by decide +kernel)) (fun _ h9 => h9) rfl dX9_isHit_258 ?_
          refine lv_iload_n hx hb dX9_isHit_261 rfl (lv_at hl 2 rfl) ?_
          refine lv_dload_n hx hb dX9_isHit_262 rfl (lv_at hl 0 rfl) ?_
          refine lv_aload_n hx hb dX9_isHit_263 rfl (lv_at hl 1 rfl) ?_
          refine va_get (D := (dC, dI)) (ci := 9) (v := .ref (ad 116 0)) (C := RX9) (T := TX9) (N := 43) hx hb hts iX9_isHit_9 hown hK hP 0 atModel rfl 16 (by decide) (hts (.fieldLink RX9 52 "LinkQueuesModel" "interval" "[D") (by decide +kernel)) (fun _ h9 => h9) rfl dX9_isHit_264 ?_
          refine lv_iload_n hx hb dX9_isHit_267 rfl (lv_at hl 2 rfl) ?_
          obtain ⟨hi_12, hwp⟩ := hwp
          refine va_dald (D := (dC, dI)) hx hb hK hP 11 0 atm16 rfl hi_12 dX9_isHit_268 ?_
          refine lv_aload_n hx hb dX9_isHit_269 rfl (lv_at hl 1 rfl) ?_
          refine va_get (D := (dC, dI)) (ci := 9) (v := .ref (ad 121 0)) (C := RX9) (T := TX9) (N := 43) hx hb hts iX9_isHit_9 hown hK hP 0 atModel rfl 21 (by decide) (hts (.fieldLink RX9 68 "LinkQueuesModel" "delayCount" "[I") (by decide +kernel)) (fun _ h9 => h9) rfl dX9_isHit_270 ?_
          refine lv_iload_n hx hb dX9_isHit_273 rfl (lv_at hl 2 rfl) ?_
          obtain ⟨hi_13, hwp⟩ := hwp
          refine va_iald (D := (dC, dI)) hx hb hK hP 16 1 atm21 rfl hi_13 dX9_isHit_274 ?_
          have hF := fA hD hS hA
          refine va_calld (va_runS (As := [.int (sI s11 1021 a1.toNatClampNeg)]) (rest := [.double (sD s11 1016 a1.toNatClampNeg), .double (FP.i2d (sI σ 1001 0)), .int a1, .ref (ad 120 0)]) ⟨hx, hb, hml, hown, hts⟩ (c_X9_root l dC dI cA ad s11 (sI s11 1021 a1.toNatClampNeg) H.size _ hwp) (cwS 1 hts gX9_isHit_X9_root rfl rfl rfl (by decide +kernel) ⟨Nat.le_of_ble_eq_true rfl, Nat.le_of_ble_eq_true rfl⟩) ⟨fbC, fun U hU hW => ⟨rfl, by rw [hU], by rw [hU]; exact hP, va_K.moved hW.alike hK, hD.weaken (fun _ _ _ _ => trivial)⟩⟩ rfl rfl hl.1 rfl (lv_room (Nat.le_of_ble_eq_true rfl)) dX9_isHit_275 ⟨hkc, hks⟩) hS (fun q _ h => hF q h) hF (fun r15 s14 t H1 locs ht hvm hwp hB hz1 hk1 hS => ?_)
          obtain ⟨hP1, hK1, hD1⟩ := hB
          rw [ht] at hP1
          have hD2 := hD1.weaken (fun _ q _ h => hF q.1 h)
          clear hP hD
          have hP := hP1
          have hD := hD2
          clear hP1 hD1 hD2 hK1 hk1 hz1 hF
          generalize H1 = H at hP hS ⊢
          refine lv_ddiv hx hb dX9_isHit_278 hwp.1 ?_
          replace hwp := hwp.2
          refine lv_dadd hx hb dX9_isHit_279 hwp.1 ?_
          replace hwp := hwp.2
          obtain ⟨hi_16, hwp⟩ := hwp
          obtain ⟨s17, e_s17⟩ : ∃ z, z = upD s14 1020 a1.toNatClampNeg (FP.dadd (FP.i2d (sI σ 1001 0)) (FP.ddiv (sD s11 1016 a1.toNatClampNeg) r15)) := ⟨_, rfl⟩
          refine va_dast (D := (dC, dI)) hx hb hK hP hD hS 15 0 atm20 rfl hi_16 dX9_isHit_280 (fun H locs hP hD hS => ?_)
          rw [stm20, ← e_s17] at hP hD
          replace hwp := hwp s17 e_s17
          refine lv_iconst (v := 1) hx hb dX9_isHit_281 (by decide) ?_
          exact W.zret (ty := .boolean) (v := 1) hx hb hr (isB_nar isB1) (fun t ht hW => ⟨⟨1, s17, rfl, hwp, by rw [ht]; exact hP, va_K.moved hW.alike hK, hD⟩, hS.F ht⟩) hS.2.2 dX9_isHit_282
        have J243 : ∀ (z243 : ST), wp_X9_isHit_J243 a1 σ K (wp_X9_isHit_J244 a1 σ K) z243 → ∀ (H : Heap) (locs : List Loc) (ls : Array Slot), va_P (dC, dI) vwCl (Wm cA ad z243) H → va_D A (Wm cA ad z243) → va_S A s.heap H locs → lv_has ls 6 [(2, .double (FP.i2d (sI σ 1001 0))), (0, .ref (ad 9 0)), (1, .int a1)] → W p l e ({ frames := 1, cells := 0, slots := 0, locals := 23 } : Room) s m ([.ref (ad 9 0), .int a1] : List Value).toArray below meth c H locs 0 0 (MQ below (va_Qi K (atC dC dI cA (Wm cA ad) A) A) ([.ref (ad 9 0), .int a1] : List Value).toArray s 0 0 A) (F0 m 243 ls [.int a1, .ref (ad 121 0)]) := by
          intro z243 hwp H locs ls hP hD hS hl
          refine lv_iconst (v := 1) hx hb dX9_isHit_243 (by decide) ?_
          exact J244 z243 1 hwp _ _ _ hP hD hS (lv_sub hl [0, 1, 2] rfl)
        refine lv_icmp_le (tgt := 243) hx hb dX9_isHit_213 (by decide) (fun c_213 => ?_) (fun c_213 => ?_)
        · replace hwp := hwp.1 c_213
          exact J243 s4 hwp _ _ _ hP hD hS (lv_sub hl [2, 3, 4] rfl)
        · replace hwp := hwp.2 c_213
          refine lv_dload_n hx hb dX9_isHit_216 rfl (lv_at hl 2 rfl) ?_
          refine lv_aload_n hx hb dX9_isHit_217 rfl (lv_at hl 3 rfl) ?_
          refine va_get (D := (dC, dI)) (ci := 9) (v := .ref (ad 120 0)) (C := RX9) (T := TX9) (N := 43) hx hb hts iX9_isHit_9 hown hK hP 0 atModel rfl 20 (by decide) (hts (.fieldLink RX9 65 "LinkQueuesModel" "nextTime" "[D") (by decide +kernel)) (fun _ h9 => h9) rfl dX9_isHit_218 ?_
          refine lv_iload_n hx hb dX9_isHit_221 rfl (lv_at hl 4 rfl) ?_
          obtain ⟨hi_18, hwp⟩ := hwp
          refine va_dald (D := (dC, dI)) hx hb hK hP 15 0 atm20 rfl hi_18 dX9_isHit_222 ?_
          refine lv_dsub hx hb dX9_isHit_223 hwp.1 ?_
          replace hwp := hwp.2
          refine lv_ldc2d (v := 4625196817309499392) hx hb hown (hts (.constantDouble RX9 183 (4625196817309499392)) (by decide +kernel)) dX9_isHit_224 ?_
          refine lv_aload_n hx hb dX9_isHit_227 rfl (lv_at hl 3 rfl) ?_
          refine va_get (D := (dC, dI)) (ci := 9) (v := .ref (ad 116 0)) (C := RX9) (T := TX9) (N := 43) hx hb hts iX9_isHit_9 hown hK hP 0 atModel rfl 16 (by decide) (hts (.fieldLink RX9 52 "LinkQueuesModel" "interval" "[D") (by decide +kernel)) (fun _ h9 => h9) rfl dX9_isHit_228 ?_
          refine lv_iload_n hx hb dX9_isHit_231 rfl (lv_at hl 4 rfl) ?_
          obtain ⟨hi_19, hwp⟩ := hwp
          refine va_dald (D := (dC, dI)) hx hb hK hP 11 0 atm16 rfl hi_19 dX9_isHit_232 ?_
          refine lv_dmul hx hb dX9_isHit_233 hwp.1 ?_
          replace hwp := hwp.2
          refine lv_dcmp hx hb dX9_isHit_234 ?_
          refine lv_if_ge (tgt := 243) hx hb dX9_isHit_235 (by decide) (fun c_235 => ?_) (fun c_235 => ?_)
          · replace hwp := hwp.1 c_235
            exact J243 s4 hwp _ _ _ hP hD hS (lv_sub hl [2, 3, 4] rfl)
          · replace hwp := hwp.2 c_235
            refine lv_iload hx hb dX9_isHit_238 (lv_at hl 0 rfl) ?_
            refine lv_goto (tgt := 244) hx hb dX9_isHit_240 (by decide) ?_
            exact J244 s4 ((sI s4 1021 a1.toNatClampNeg) - (sI s4 1022 a1.toNatClampNeg)) hwp _ _ _ hP hD hS (lv_sub hl [2, 3, 4] rfl)
      · replace hwp := hwp.2 c_178
        refine lv_iconst (v := 0) hx hb dX9_isHit_181 (by decide) ?_
        exact W.zret (ty := .boolean) (v := 0) hx hb hr (isB_nar isB0) (fun t ht hW => ⟨⟨0, z99, rfl, hwp, by rw [ht]; exact hP, va_K.moved hW.alike hK, hD⟩, hS.F ht⟩) hS.2.2 dX9_isHit_182
    · replace hwp := hwp.2 c_105
      refine lv_iload hx hb dX9_isHit_108 (lv_at hl 0 rfl) ?_
      refine lv_if_ne (tgt := 122) hx hb dX9_isHit_110 (by decide) (fun c_110 => ?_) (fun c_110 => ?_)
      · replace hwp := hwp.1 c_110
        refine lv_dload_n hx hb dX9_isHit_122 rfl (lv_at hl 1 rfl) ?_
        refine lv_aload_n hx hb dX9_isHit_123 rfl (lv_at hl 2 rfl) ?_
        refine va_get (D := (dC, dI)) (ci := 9) (v := .ref (ad 120 0)) (C := RX9) (T := TX9) (N := 43) hx hb hts iX9_isHit_9 hown hK hP 0 atModel rfl 20 (by decide) (hts (.fieldLink RX9 65 "LinkQueuesModel" "nextTime" "[D") (by decide +kernel)) (fun _ h9 => h9) rfl dX9_isHit_124 ?_
        refine lv_iload_n hx hb dX9_isHit_127 rfl (lv_at hl 3 rfl) ?_
        obtain ⟨hi_20, hwp⟩ := hwp
        refine va_dald (D := (dC, dI)) hx hb hK hP 15 0 atm20 rfl hi_20 dX9_isHit_128 ?_
        refine lv_dcmp hx hb dX9_isHit_129 ?_
        refine lv_if_ge (tgt := 135) hx hb dX9_isHit_130 (by decide) (fun c_130 => ?_) (fun c_130 => ?_)
        · replace hwp := hwp.1 c_130
          refine lv_aload_n hx hb dX9_isHit_135 rfl (lv_at hl 2 rfl) ?_
          refine va_get (D := (dC, dI)) (ci := 9) (v := .ref (ad 121 0)) (C := RX9) (T := TX9) (N := 43) hx hb hts iX9_isHit_9 hown hK hP 0 atModel rfl 21 (by decide) (hts (.fieldLink RX9 68 "LinkQueuesModel" "delayCount" "[I") (by decide +kernel)) (fun _ h9 => h9) rfl dX9_isHit_136 ?_
          refine lv_iload_n hx hb dX9_isHit_139 rfl (lv_at hl 3 rfl) ?_
          refine lv_dup2_11 hx hb dX9_isHit_140 rfl rfl ?_
          obtain ⟨hi_21, hwp⟩ := hwp
          refine va_iald (D := (dC, dI)) hx hb hK hP 16 1 atm21 rfl hi_21 dX9_isHit_141 ?_
          refine lv_iconst (v := 1) hx hb dX9_isHit_142 (by decide) ?_
          refine lv_iadd hx hb dX9_isHit_143 ?_
          obtain ⟨hi_22, hwp⟩ := hwp
          obtain ⟨s23, e_s23⟩ : ∃ z, z = upI z99 1021 a1.toNatClampNeg ((sI z99 1021 a1.toNatClampNeg) + 1) := ⟨_, rfl⟩
          refine va_iast (D := (dC, dI)) hx hb hK hP hD hS 16 1 atm21 rfl hi_22 dX9_isHit_144 (fun H locs hP hD hS => ?_)
          rw [stm21, ← e_s23] at hP hD
          replace hwp := hwp s23 e_s23
          refine lv_aload_n hx hb dX9_isHit_145 rfl (lv_at hl 2 rfl) ?_
          refine va_get (D := (dC, dI)) (ci := 9) (v := .ref (ad 120 0)) (C := RX9) (T := TX9) (N := 43) hx hb hts iX9_isHit_9 hown hK hP 0 atModel rfl 20 (by decide) (hts (.fieldLink RX9 65 "LinkQueuesModel" "nextTime" "[D") (by decide +kernel)) (fun _ h9 => h9) rfl dX9_isHit_146 ?_
          refine lv_iload_n hx hb dX9_isHit_149 rfl (lv_at hl 3 rfl) ?_
          refine lv_aload_n hx hb dX9_isHit_150 rfl (lv_at hl 2 rfl) ?_
          refine va_get (D := (dC, dI)) (ci := 9) (v := .ref (ad 120 0)) (C := RX9) (T := TX9) (N := 43) hx hb hts iX9_isHit_9 hown hK hP 0 atModel rfl 20 (by decide) (hts (.fieldLink RX9 65 "LinkQueuesModel" "nextTime" "[D") (by decide +kernel)) (fun _ h9 => h9) rfl dX9_isHit_151 ?_
          refine lv_iload_n hx hb dX9_isHit_154 rfl (lv_at hl 3 rfl) ?_
          obtain ⟨hi_24, hwp⟩ := hwp
          refine va_dald (D := (dC, dI)) hx hb hK hP 15 0 atm20 rfl hi_24 dX9_isHit_155 ?_
          refine lv_aload_n hx hb dX9_isHit_156 rfl (lv_at hl 2 rfl) ?_
          refine va_get (D := (dC, dI)) (ci := 9) (v := .ref (ad 116 0)) (C := RX9) (T := TX9) (N := 43) hx hb hts iX9_isHit_9 hown hK hP 0 atModel rfl 16 (by decide) (hts (.fieldLink RX9 52 "LinkQueuesModel" "interval" "[D") (by decide +kernel)) (fun _ h9 => h9) rfl dX9_isHit_157 ?_
          refine lv_iload_n hx hb dX9_isHit_160 rfl (lv_at hl 3 rfl) ?_
          obtain ⟨hi_25, hwp⟩ := hwp
          refine va_dald (D := (dC, dI)) hx hb hK hP 11 0 atm16 rfl hi_25 dX9_isHit_161 ?_
          refine lv_aload_n hx hb dX9_isHit_162 rfl (lv_at hl 2 rfl) ?_
          refine va_get (D := (dC, dI)) (ci := 9) (v := .ref (ad 121 0)) (C := RX9) (T := TX9) (N := 43) hx hb hts iX9_isHit_9 hown hK hP 0 atModel rfl 21 (by decide) (hts (.fieldLink RX9 68 "LinkQueuesModel" "delayCount" "[I") (by decide +kernel)) (fun _ h9 => h9) rfl dX9_isHit_163 ?_
          refine lv_iload_n hx hb dX9_isHit_166 rfl (lv_at hl 3 rfl) ?_
          obtain ⟨hi_26, hwp⟩ := hwp
          refine va_iald (D := (dC, dI)) hx hb hK hP 16 1 atm21 rfl hi_26 dX9_isHit_167 ?_
          have hF := fA hD hS hA
          refine va_calld (va_runS (As := [.int (sI s23 1021 a1.toNatClampNeg)]) (rest := [.double (sD s23 1016 a1.toNatClampNeg), .double (sD s23 1020 a1.toNatClampNeg), .int a1, .ref (ad 120 0)]) ⟨hx, hb, hml, hown, hts⟩ (c_X9_root l dC dI cA ad s23 (sI s23 1021 a1.toNatClampNeg) H.size _ hwp) (cwS 1 hts gX9_isHit_X9_root rfl rfl rfl (by decide +kernel) ⟨Nat.le_of_ble_eq_true rfl, Nat.le_of_ble_eq_true rfl⟩) ⟨fbC, fun U hU hW => ⟨rfl, by rw [hU], by rw [hU]; exact hP, va_K.moved hW.alike hK, hD.weaken (fun _ _ _ _ => trivial)⟩⟩ rfl rfl hl.1 rfl (lv_room (Nat.le_of_ble_eq_true rfl)) dX9_isHit_168 ⟨hkc, hks⟩) hS (fun q _ h => hF q h) hF (fun r28 s27 t H1 locs ht hvm hwp hB hz1 hk1 hS => ?_)
          obtain ⟨hP1, hK1, hD1⟩ := hB
          rw [ht] at hP1
          have hD2 := hD1.weaken (fun _ q _ h => hF q.1 h)
          clear hP hD
          have hP := hP1
          have hD := hD2
          clear hP1 hD1 hD2 hK1 hk1 hz1 hF
          generalize H1 = H at hP hS ⊢
          refine lv_ddiv hx hb dX9_isHit_171 hwp.1 ?_
          replace hwp := hwp.2
          refine lv_dadd hx hb dX9_isHit_172 hwp.1 ?_
          replace hwp := hwp.2
          obtain ⟨hi_29, hwp⟩ := hwp
          obtain ⟨s30, e_s30⟩ : ∃ z, z = upD s27 1020 a1.toNatClampNeg (FP.dadd (sD s23 1020 a1.toNatClampNeg) (FP.ddiv (sD s23 1016 a1.toNatClampNeg) r28)) := ⟨_, rfl⟩
          refine va_dast (D := (dC, dI)) hx hb hK hP hD hS 15 0 atm20 rfl hi_29 dX9_isHit_173 (fun H locs hP hD hS => ?_)
          rw [stm20, ← e_s30] at hP hD
          replace hwp := hwp s30 e_s30
          refine lv_iconst (v := 1) hx hb dX9_isHit_174 (by decide) ?_
          exact W.zret (ty := .boolean) (v := 1) hx hb hr (isB_nar isB1) (fun t ht hW => ⟨⟨1, s30, rfl, hwp, by rw [ht]; exact hP, va_K.moved hW.alike hK, hD⟩, hS.F ht⟩) hS.2.2 dX9_isHit_175
        · replace hwp := hwp.2 c_130
          refine lv_iconst (v := 0) hx hb dX9_isHit_133 (by decide) ?_
          exact W.zret (ty := .boolean) (v := 0) hx hb hr (isB_nar isB0) (fun t ht hW => ⟨⟨0, z99, rfl, hwp, by rw [ht]; exact hP, va_K.moved hW.alike hK, hD⟩, hS.F ht⟩) hS.2.2 dX9_isHit_134
      · replace hwp := hwp.2 c_110
        refine lv_aload_n hx hb dX9_isHit_113 rfl (lv_at hl 2 rfl) ?_
        refine va_get (D := (dC, dI)) (ci := 9) (v := .ref (ad 119 0)) (C := RX9) (T := TX9) (N := 43) hx hb hts iX9_isHit_9 hown hK hP 0 atModel rfl 19 (by decide) (hts (.fieldLink RX9 62 "LinkQueuesModel" "drops" "[Z") (by decide +kernel)) (fun _ h9 => h9) rfl dX9_isHit_114 ?_
        refine lv_iload_n hx hb dX9_isHit_117 rfl (lv_at hl 3 rfl) ?_
        refine lv_iconst (v := 0) hx hb dX9_isHit_118 (by decide) ?_
        obtain ⟨hi_31, hwp⟩ := hwp
        obtain ⟨s32, e_s32⟩ : ∃ z, z = upI z99 1019 a1.toNatClampNeg 0 := ⟨_, rfl⟩
        refine va_zast (D := (dC, dI)) hx hb hK hP hD hS 14 2 atm19 rfl hi_31 dX9_isHit_119 (fun H locs hP hD hS => ?_)
        rw [isB_vp isB0] at hP hD
        rw [stm19, ← e_s32] at hP hD
        replace hwp := hwp s32 e_s32
        refine lv_iconst (v := 0) hx hb dX9_isHit_120 (by decide) ?_
        exact W.zret (ty := .boolean) (v := 0) hx hb hr (isB_nar isB0) (fun t ht hW => ⟨⟨0, s32, rfl, hwp, by rw [ht]; exact hP, va_K.moved hW.alike hK, hD⟩, hS.F ht⟩) hS.2.2 dX9_isHit_121
  have J38 : ∀ (z38 : ST), wp_X9_isHit_J38 a1 σ K (wp_X9_isHit_J99 a1 σ K) z38 → ∀ (H : Heap) (locs : List Loc) (ls : Array Slot), va_P (dC, dI) vwCl (Wm cA ad z38) H → va_D A (Wm cA ad z38) → va_S A s.heap H locs → lv_has ls 6 [(4, .int 0), (2, .double (FP.i2d (sI σ 1001 0))), (0, .ref (ad 9 0)), (1, .int a1)] → W p l e ({ frames := 1, cells := 0, slots := 0, locals := 23 } : Room) s m ([.ref (ad 9 0), .int a1] : List Value).toArray below meth c H locs 0 0 (MQ below (va_Qi K (atC dC dI cA (Wm cA ad) A) A) ([.ref (ad 9 0), .int a1] : List Value).toArray s 0 0 A) (F0 m 38 ls []) := by
    intro z38 hwp H locs ls hP hD hS hl
    refine lv_aload_n hx hb dX9_isHit_38 rfl (lv_at hl 2 rfl) ?_
    refine va_get (D := (dC, dI)) (ci := 9) (v := .ref (ad 118 0)) (C := RX9) (T := TX9) (N := 43) hx hb hts iX9_isHit_9 hown hK hP 0 atModel rfl 18 (by decide) (hts (.fieldLink RX9 58 "LinkQueuesModel" "hasAbove" "[Z") (by decide +kernel)) (fun _ h9 => h9) rfl dX9_isHit_39 ?_
    refine lv_iload_n hx hb dX9_isHit_42 rfl (lv_at hl 3 rfl) ?_
    refine lv_iconst (v := 0) hx hb dX9_isHit_43 (by decide) ?_
    obtain ⟨hi_33, hwp⟩ := hwp
    obtain ⟨s34, e_s34⟩ : ∃ z, z = upI z38 1018 a1.toNatClampNeg 0 := ⟨_, rfl⟩
    refine va_zast (D := (dC, dI)) hx hb hK hP hD hS 13 2 atm18 rfl hi_33 dX9_isHit_44 (fun H locs hP hD hS => ?_)
    rw [isB_vp isB0] at hP hD
    rw [stm18, ← e_s34] at hP hD
    replace hwp := hwp s34 e_s34
    refine lv_goto (tgt := 99) hx hb dX9_isHit_45 (by decide) ?_
    exact J99 s34 0 hwp _ _ _ hP hD hS (lv_sub hl [0, 1, 2, 3] rfl)
  refine lv_if_lt (tgt := 38) hx hb dX9_isHit_26 (by decide) (fun c_26 => ?_) (fun c_26 => ?_)
  · replace hwp := hwp.1 c_26
    exact J38 σ hwp _ _ _ hP hD hS (lv_sub hl [0, 1, 2, 3] rfl)
  · replace hwp := hwp.2 c_26
    refine lv_aload_n hx hb dX9_isHit_29 rfl (lv_at hl 2 rfl) ?_
    refine va_get (D := (dC, dI)) (ci := 9) (v := .ref (ad 123 0)) (C := RX9) (T := TX9) (N := 43) hx hb hts iX9_isHit_9 hown hK hP 0 atModel rfl 23 (by decide) (hts (.fieldLink RX9 74 "LinkQueuesModel" "sizes" "[I") (by decide +kernel)) (fun _ h9 => h9) rfl dX9_isHit_30 ?_
    refine lv_iload_n hx hb dX9_isHit_33 rfl (lv_at hl 3 rfl) ?_
    obtain ⟨hi_35, hwp⟩ := hwp
    refine va_iald (D := (dC, dI)) hx hb hK hP 18 1 atm23 rfl hi_35 dX9_isHit_34 ?_
    refine lv_if_ne (tgt := 48) hx hb dX9_isHit_35 (by decide) (fun c_35 => ?_) (fun c_35 => ?_)
    · replace hwp := hwp.1 c_35
      refine lv_aload_n hx hb dX9_isHit_48 rfl (lv_at hl 2 rfl) ?_
      refine va_get (D := (dC, dI)) (ci := 9) (v := .ref (ad 118 0)) (C := RX9) (T := TX9) (N := 43) hx hb hts iX9_isHit_9 hown hK hP 0 atModel rfl 18 (by decide) (hts (.fieldLink RX9 58 "LinkQueuesModel" "hasAbove" "[Z") (by decide +kernel)) (fun _ h9 => h9) rfl dX9_isHit_49 ?_
      refine lv_iload_n hx hb dX9_isHit_52 rfl (lv_at hl 3 rfl) ?_
      obtain ⟨hi_36, hwp⟩ := hwp
      refine va_zald (D := (dC, dI)) hx hb hK hP 13 2 atm18 rfl hi_36 dX9_isHit_53 ?_
      refine lv_if_ne (tgt := 81) hx hb dX9_isHit_54 (by decide) (fun c_54 => ?_) (fun c_54 => ?_)
      · replace hwp := hwp.1 c_54
        refine lv_dload_n hx hb dX9_isHit_81 rfl (lv_at hl 1 rfl) ?_
        refine lv_aload_n hx hb dX9_isHit_82 rfl (lv_at hl 2 rfl) ?_
        refine va_get (D := (dC, dI)) (ci := 9) (v := .ref (ad 117 0)) (C := RX9) (T := TX9) (N := 43) hx hb hts iX9_isHit_9 hown hK hP 0 atModel rfl 17 (by decide) (hts (.fieldLink RX9 55 "LinkQueuesModel" "above" "[D") (by decide +kernel)) (fun _ h9 => h9) rfl dX9_isHit_83 ?_
        refine lv_iload_n hx hb dX9_isHit_86 rfl (lv_at hl 3 rfl) ?_
        obtain ⟨hi_37, hwp⟩ := hwp
        refine va_dald (D := (dC, dI)) hx hb hK hP 12 0 atm17 rfl hi_37 dX9_isHit_87 ?_
        refine lv_dcmp hx hb dX9_isHit_88 ?_
        have J97 : ∀ (z97 : ST) (y0_97 : Int32), wp_X9_isHit_J97 a1 σ K (wp_X9_isHit_J38 a1 σ K (wp_X9_isHit_J99 a1 σ K)) (wp_X9_isHit_J99 a1 σ K) z97 y0_97 → ∀ (H : Heap) (locs : List Loc) (ls : Array Slot), va_P (dC, dI) vwCl (Wm cA ad z97) H → va_D A (Wm cA ad z97) → va_S A s.heap H locs → lv_has ls 6 [(2, .double (FP.i2d (sI σ 1001 0))), (0, .ref (ad 9 0)), (1, .int a1)] → W p l e ({ frames := 1, cells := 0, slots := 0, locals := 23 } : Room) s m ([.ref (ad 9 0), .int a1] : List Value).toArray below meth c H locs 0 0 (MQ below (va_Qi K (atC dC dI cA (Wm cA ad) A) A) ([.ref (ad 9 0), .int a1] : List Value).toArray s 0 0 A) (F0 m 97 ls [.int y0_97]) := by
          intro z97 y0_97 hwp H locs ls hP hD hS hl
          refine lv_istore (lv' := [(4, .int y0_97), (2, .double (FP.i2d (sI σ 1001 0))), (0, .ref (ad 9 0)), (1, .int a1)]) hx hb dX9_isHit_97 hl (by decide) rfl (fun ls hl => ?_)
          exact J99 z97 y0_97 hwp _ _ _ hP hD hS (lv_sub hl [0, 1, 2, 3] rfl)
        refine lv_if_lt (tgt := 96) hx hb dX9_isHit_89 (by decide) (fun c_89 => ?_) (fun c_89 => ?_)
        · replace hwp := hwp.1 c_89
          refine lv_iconst (v := 0) hx hb dX9_isHit_96 (by decide) ?_
          exact J97 σ 0 hwp _ _ _ hP hD hS (lv_sub hl [1, 2, 3] rfl)
        · replace hwp := hwp.2 c_89
          refine lv_iconst (v := 1) hx hb dX9_isHit_92 (by decide) ?_
          refine lv_goto (tgt := 97) hx hb dX9_isHit_93 (by decide) ?_
          exact J97 σ 1 hwp _ _ _ hP hD hS (lv_sub hl [1, 2, 3] rfl)
      · replace hwp := hwp.2 c_54
        refine lv_aload_n hx hb dX9_isHit_57 rfl (lv_at hl 2 rfl) ?_
        refine va_get (D := (dC, dI)) (ci := 9) (v := .ref (ad 118 0)) (C := RX9) (T := TX9) (N := 43) hx hb hts iX9_isHit_9 hown hK hP 0 atModel rfl 18 (by decide) (hts (.fieldLink RX9 58 "LinkQueuesModel" "hasAbove" "[Z") (by decide +kernel)) (fun _ h9 => h9) rfl dX9_isHit_58 ?_
        refine lv_iload_n hx hb dX9_isHit_61 rfl (lv_at hl 3 rfl) ?_
        refine lv_iconst (v := 1) hx hb dX9_isHit_62 (by decide) ?_
        obtain ⟨hi_38, hwp⟩ := hwp
        obtain ⟨s39, e_s39⟩ : ∃ z, z = upI σ 1018 a1.toNatClampNeg 1 := ⟨_, rfl⟩
        refine va_zast (D := (dC, dI)) hx hb hK hP hD hS 13 2 atm18 rfl hi_38 dX9_isHit_63 (fun H locs hP hD hS => ?_)
        rw [isB_vp isB1] at hP hD
        rw [stm18, ← e_s39] at hP hD
        replace hwp := hwp s39 e_s39
        refine lv_aload_n hx hb dX9_isHit_64 rfl (lv_at hl 2 rfl) ?_
        refine va_get (D := (dC, dI)) (ci := 9) (v := .ref (ad 117 0)) (C := RX9) (T := TX9) (N := 43) hx hb hts iX9_isHit_9 hown hK hP 0 atModel rfl 17 (by decide) (hts (.fieldLink RX9 55 "LinkQueuesModel" "above" "[D") (by decide +kernel)) (fun _ h9 => h9) rfl dX9_isHit_65 ?_
        refine lv_iload_n hx hb dX9_isHit_68 rfl (lv_at hl 3 rfl) ?_
        refine lv_dload_n hx hb dX9_isHit_69 rfl (lv_at hl 1 rfl) ?_
        refine lv_aload_n hx hb dX9_isHit_70 rfl (lv_at hl 2 rfl) ?_
        refine va_get (D := (dC, dI)) (ci := 9) (v := .ref (ad 116 0)) (C := RX9) (T := TX9) (N := 43) hx hb hts iX9_isHit_9 hown hK hP 0 atModel rfl 16 (by decide) (hts (.fieldLink RX9 52 "LinkQueuesModel" "interval" "[D") (by decide +kernel)) (fun _ h9 => h9) rfl dX9_isHit_71 ?_
        refine lv_iload_n hx hb dX9_isHit_74 rfl (lv_at hl 3 rfl) ?_
        obtain ⟨hi_40, hwp⟩ := hwp
        refine va_dald (D := (dC, dI)) hx hb hK hP 11 0 atm16 rfl hi_40 dX9_isHit_75 ?_
        refine lv_dadd hx hb dX9_isHit_76 hwp.1 ?_
        replace hwp := hwp.2
        obtain ⟨hi_41, hwp⟩ := hwp
        obtain ⟨s42, e_s42⟩ : ∃ z, z = upD s39 1017 a1.toNatClampNeg (FP.dadd (FP.i2d (sI σ 1001 0)) (sD s39 1016 a1.toNatClampNeg)) := ⟨_, rfl⟩
        refine va_dast (D := (dC, dI)) hx hb hK hP hD hS 12 0 atm17 rfl hi_41 dX9_isHit_77 (fun H locs hP hD hS => ?_)
        rw [stm17, ← e_s42] at hP hD
        replace hwp := hwp s42 e_s42
        refine lv_goto (tgt := 99) hx hb dX9_isHit_78 (by decide) ?_
        exact J99 s42 0 hwp _ _ _ hP hD hS (lv_sub hl [0, 1, 2, 3] rfl)
    · replace hwp := hwp.2 c_35
      exact J38 σ hwp _ _ _ hP hD hS (lv_sub hl [0, 1, 2, 3] rfl)
def wp_X9_leaveRound_L12 (K : ST → Prop) : Nat → ST → Int32 → Prop
  | 0 => fun _ _ => False
  | fu12 + 1 => fun z12 x1_12 => (((sI z12 1030 0) ≤ x1_12 → (∀ s2, s2 = upI z12 1033 0 0 →
K s2)) ∧ (¬ ((sI z12 1030 0) ≤ x1_12) → (vp_in (x1_12 + 1) 6 ∧
vp_in x1_12 6 ∧
∀ s5, s5 = upI z12 1031 x1_12.toNatClampNeg (sI z12 1031 (x1_12 + 1).toNatClampNeg) →
wp_X9_leaveRound_L12 K fu12 s5 (x1_12 + 1))))
def wp_X9_leaveRound (σ : ST) (K : ST → Prop) : Prop := ∀ s1, s1 = upI σ 1030 0 ((sI σ 1030 0) - 1) →
∃ n12, wp_X9_leaveRound_L12 K n12 s1 0
set_option maxRecDepth 20000 in
theorem iX9_leaveRound_9 : ∀ w ∈ wsX90, w ∈ wsX9_leaveRound := by decide +kernel
set_option maxHeartbeats 8000000 in
set_option maxRecDepth 100000 in
theorem c_X9_leaveRound (l : Launch) (dC : Nat → ClassId) (dI : Nat → Nat → Nat) (cA : Nat → ClassId) (ad : Nat → Nat → Nat) (σ : ST) (sz : Nat) (K : ST → Prop) (hwp : wp_X9_leaveRound σ K) : Met l yX9_leaveRound wsX9_leaveRound ({ frames := 0, cells := 0, slots := 0, locals := 0 } : Room) (va_Pc [.ref (ad 9 0)] (preC dC dI cA (Wm cA ad σ) sz)) (va_Qv K (atC dC dI cA (Wm cA ad) (va_A (Wm cA ad σ) sz)) (va_A (Wm cA ad σ) sz)) 0 0 (va_A (Wm cA ad σ) sz) := by
  refine Met.ofW (cc := cX9_leaveRound) (maxL := 2) (ret := none) (by decide) rfl ?_
  intro p e s m args below meth c s₁ B hml hv
  obtain ⟨rfl, hsz, hP, hK, hD0⟩ := hv
  have hx := B.exec
  have hb := B.bytes
  have hr := B.returns
  have hts := atoms_spec (ws := wsX9_leaveRound) B.pre
  have hown : s.vm.findClass RX9 = some m.cls := findClass_of_methodNamed B.named
  have hlocks := B.notSynchronized
  subst hsz
  have hD := hD0.self (sz := s.heap.size)
  clear hD0
  generalize hAe : va_A (Wm cA ad σ) s.heap.size = A at hD ⊢
  have hA : ∀ q : Nat, s.heap.size ≤ q → A q := fun q h => by rw [← hAe]; exact Or.inr h
  have hS : va_S A s.heap s.heap [] := va_S.rf
  have hkc : 0 ≤ 0 := Nat.le_refl 0
  have hks : 0 ≤ 0 := Nat.le_refl 0
  have hl := lv_entry ([.ref (ad 9 0)]) (n := 2) (Nat.le_of_ble_eq_true rfl)
  rw [lg_entry_eq]
  generalize (lg_sl ([.ref (ad 9 0)]) ++ List.replicate (2 - (lg_sl ([.ref (ad 9 0)])).length) Slot.unset).toArray = ls at hl ⊢
  have hl : lv_has ls 2 [(0, .ref (ad 9 0))] := hl
  unfold wp_X9_leaveRound at hwp
  generalize hHe : s.heap = H at hP ⊢
  have hS : va_S A s.heap H [] := by rw [← hHe]; exact va_S.rf
  clear hHe
  refine lv_aload_n hx hb dX9_leaveRound_0 rfl (lv_at hl 0 rfl) ?_
  refine lv_dup hx hb dX9_leaveRound_1 rfl ?_
  refine va_get (D := (dC, dI)) (ci := 9) (v := .int (sI σ 1030 0)) (C := RX9) (T := TX9) (N := 43) hx hb hts iX9_leaveRound_9 hown hK hP 0 atModel rfl 30 (by decide) (hts (.fieldLink RX9 158 "LinkQueuesModel" "roundSize" "I") (by decide +kernel)) (fun _ h9 => h9) rfl dX9_leaveRound_2 ?_
  refine lv_iconst (v := 1) hx hb dX9_leaveRound_5 (by decide) ?_
  refine lv_isub hx hb dX9_leaveRound_6 ?_
  obtain ⟨s1, e_s1⟩ : ∃ z, z = upI σ 1030 0 ((sI σ 1030 0) - 1) := ⟨_, rfl⟩
  refine st_put (D := (dC, dI)) (ci := 9) (v := .int ((sI σ 1030 0) - 1)) (ty := .int) (C := RX9) (T := TX9) (N := 43) (ws' := Wm cA ad s1) hx hb hts iX9_leaveRound_9 tyX9 tyX9_ok nmX9 hown hK hP hD hS 0 atModel rfl 30 (by decide) (hts (.fieldLink RX9 158 "LinkQueuesModel" "roundSize" "I") (by decide +kernel)) (fun _ h9 => h9) rfl (by decide +kernel) rfl rfl (Nat.le_of_ble_eq_true rfl) dX9_leaveRound_7 (by rw [e_s1]; exact stM_30 ((sI σ 1030 0) - 1)) (fun H locs hP hD hS => ?_)
  replace hwp := hwp s1 e_s1
  refine lv_iconst (v := 0) hx hb dX9_leaveRound_10 (by decide) ?_
  refine lv_istore_n (lv' := [(1, .int 0), (0, .ref (ad 9 0))]) hx hb dX9_leaveRound_11 rfl hl (by decide) rfl (fun ls hl => ?_)
  obtain ⟨n12, hwp⟩ := hwp
  have L12 : ∀ (fu12 : Nat) (z12 : ST) (x1_12 : Int32), wp_X9_leaveRound_L12 K fu12 z12 x1_12 → ∀ (H : Heap) (locs : List Loc) (ls : Array Slot), va_P (dC, dI) vwCl (Wm cA ad z12) H → va_D A (Wm cA ad z12) → va_S A s.heap H locs → lv_has ls 2 [(1, .int x1_12), (0, .ref (ad 9 0))] → W p l e ({ frames := 0, cells := 0, slots := 0, locals := 0 } : Room) s m ([.ref (ad 9 0)] : List Value).toArray below meth c H locs 0 0 (MQ below (va_Qv K (atC dC dI cA (Wm cA ad) A) A) ([.ref (ad 9 0)] : List Value).toArray s 0 0 A) (F0 m 12 ls []) := by
    intro fu12
    induction fu12 with
    | zero => intro z12 x1_12 h; exact h.elim
    | succ fu12 ih12 =>
      intro z12 x1_12 hwp H locs ls hP hD hS hl
      refine lv_iload_n hx hb dX9_leaveRound_12 rfl (lv_at hl 0 rfl) ?_
      refine lv_aload_n hx hb dX9_leaveRound_13 rfl (lv_at hl 1 rfl) ?_
      refine va_get (D := (dC, dI)) (ci := 9) (v := .int (sI z12 1030 0)) (C := RX9) (T := TX9) (N := 43) hx hb hts iX9_leaveRound_9 hown hK hP 0 atModel rfl 30 (by decide) (hts (.fieldLink RX9 158 "LinkQueuesModel" "roundSize" "I") (by decide +kernel)) (fun _ h9 => h9) rfl dX9_leaveRound_14 ?_
      refine lv_icmp_ge (tgt := 40) hx hb dX9_leaveRound_17 (by decide) (fun c_17 => ?_) (fun c_17 => ?_)
      · replace hwp := hwp.1 c_17
        refine lv_aload_n hx hb dX9_leaveRound_40 rfl (lv_at hl 1 rfl) ?_
        refine lv_iconst (v := 0) hx hb dX9_leaveRound_41 (by decide) ?_
        obtain ⟨s2, e_s2⟩ : ∃ z, z = upI z12 1033 0 0 := ⟨_, rfl⟩
        refine st_put (D := (dC, dI)) (ci := 9) (v := .int 0) (ty := .boolean) (C := RX9) (T := TX9) (N := 43) (ws' := Wm cA ad s2) hx hb hts iX9_leaveRound_9 tyX9 tyX9_ok nmX9 hown hK hP hD hS 0 atModel rfl 33 (by decide) (hts (.fieldLink RX9 185 "LinkQueuesModel" "isTurn" "Z") (by decide +kernel)) (fun _ h9 => h9) rfl (by decide +kernel) rfl rfl (Nat.le_of_ble_eq_true rfl) dX9_leaveRound_42 (by rw [e_s2]; exact stM_33 0) (fun H locs hP hD hS => ?_)
        replace hwp := hwp s2 e_s2
        exact W.vret hx hb hr (fun t ht hW => ⟨⟨s2, rfl, hwp, by rw [ht]; exact hP, va_K.moved hW.alike hK, hD⟩, hS.F ht⟩) hS.2.2 dX9_leaveRound_45
      · replace hwp := hwp.2 c_17
        refine lv_aload_n hx hb dX9_leaveRound_20 rfl (lv_at hl 1 rfl) ?_
        refine va_get (D := (dC, dI)) (ci := 9) (v := .ref (ad 131 0)) (C := RX9) (T := TX9) (N := 43) hx hb hts iX9_leaveRound_9 hown hK hP 0 atModel rfl 31 (by decide) (hts (.fieldLink RX9 95 "LinkQueuesModel" "round" "[I") (by decide +kernel)) (fun _ h9 => h9) rfl dX9_leaveRound_21 ?_
        refine lv_iload_n hx hb dX9_leaveRound_24 rfl (lv_at hl 0 rfl) ?_
        refine lv_aload_n hx hb dX9_leaveRound_25 rfl (lv_at hl 1 rfl) ?_
        refine va_get (D := (dC, dI)) (ci := 9) (v := .ref (ad 131 0)) (C := RX9) (T := TX9) (N := 43) hx hb hts iX9_leaveRound_9 hown hK hP 0 atModel rfl 31 (by decide) (hts (.fieldLink RX9 95 "LinkQueuesModel" "round" "[I") (by decide +kernel)) (fun _ h9 => h9) rfl dX9_leaveRound_26 ?_
        refine lv_iload_n hx hb dX9_leaveRound_29 rfl (lv_at hl 0 rfl) ?_
        refine lv_iconst (v := 1) hx hb dX9_leaveRound_30 (by decide) ?_
        refine lv_iadd hx hb dX9_leaveRound_31 ?_
        obtain ⟨hi_3, hwp⟩ := hwp
        refine va_iald (D := (dC, dI)) hx hb hK hP 25 1 atm31 rfl hi_3 dX9_leaveRound_32 ?_
        obtain ⟨hi_4, hwp⟩ := hwp
        obtain ⟨s5, e_s5⟩ : ∃ z, z = upI z12 1031 x1_12.toNatClampNeg (sI z12 1031 (x1_12 + 1).toNatClampNeg) := ⟨_, rfl⟩
        refine va_iast (D := (dC, dI)) hx hb hK hP hD hS 25 1 atm31 rfl hi_4 dX9_leaveRound_33 (fun H locs hP hD hS => ?_)
        rw [stm31, ← e_s5] at hP hD
        replace hwp := hwp s5 e_s5
        refine lv_iinc (v := (x1_12 + 1)) (lv' := [(1, .int (x1_12 + 1)), (0, .ref (ad 9 0))]) hx hb dX9_leaveRound_34 hl (k := 0) rfl rfl (by decide) rfl (fun ls hl => ?_)
        refine lv_goto (tgt := 12) hx hb dX9_leaveRound_37 (by decide) ?_
        exact ih12 s5 (x1_12 + 1) hwp _ _ _ hP hD hS (lv_sub hl [0, 1] rfl)
  exact L12 n12 s1 0 hwp _ _ _ hP hD hS (lv_sub hl [0, 1] rfl)
