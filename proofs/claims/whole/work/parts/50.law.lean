/-- what stands at the law's every point: the machine, the words, the script, the tables of classes, the throws' needs -/
def lcx (p : Program) (l : Launch) (s : State) (m : MethodId) (c : Code) (b L : Nat) (xs : Nat → Int32) (dC : Nat → ClassId) (dI : Nat → Nat → Nat) (cA : Nat → ClassId) : Prop := p.tables.exec = Jvm.exec ∧ c.code = code ∧ c.maxLocals = 10 ∧ s.vm.findClass RL = some m.cls ∧ (∀ w ∈ wsL_law, w.before #[Value.ref b] s = true) ∧ va_X b L xs s s.heap ∧ b < s.heap.size ∧ va_K (dC, dI) vwCl (tyC cA) s ∧ xT (fun q : Nat => s.heap.size ≤ q) s ∧ l.stackTraces = false
def wp_case0 (xs : Nat → Int32) (L : Nat) (i : Int32) (n : Nat) (o : Nat → Int64) (d : Nat → UInt64) (σ τ : ST) (Kn : Nat → (Nat → Int64) → (Nat → UInt64) → ST → ST → Prop) : Prop := vp_in (i + 1) L ∧
vp_in (i + 2) L ∧
vp_in (i + 3) L ∧
wp_L_kind n o d σ (xs (i + 1).toNatClampNeg) (xs (i + 2).toNatClampNeg) (xs (i + 3).toNatClampNeg) (fun r4 o d σ =>
vp_in (i + 1) L ∧
vp_in (i + 2) L ∧
vp_in (i + 3) L ∧
wp_X9_kind τ (xs (i + 1).toNatClampNeg) (xs (i + 2).toNatClampNeg) (xs (i + 3).toNatClampNeg) (fun τ =>
wp_X9_thrown τ  (fun r8 τ =>
((r8 = r4 → (Kn n o d σ τ)) ∧ (¬ (r8 = r4) → (False)))
)
)
)
set_option maxHeartbeats 16000000 in
set_option maxRecDepth 100000 in
theorem law_case0 {p : Program} {l : Launch} {e : Env} {s : State} {m : MethodId} {below : List Frame} {meth : Method} {c : Code} {Q : State → Prop} {dC : Nat → ClassId} {dI : Nat → Nat → Nat} {cA : Nat → ClassId} {b1 b2 b L : Nat} {xs : Nat → Int32} {adm : Nat → Nat → Nat} {cs sl : Nat} (C : lcx p l s m c b L xs dC dI cA) (hcs : cs + 2 ≤ 601024) (hsl : sl + 14 ≤ 7293034) {a0 : Nat} (Kn : Nat → (Nat → Int64) → (Nat → UInt64) → ST → ST → Prop) {i : Int32} (hnext : ∀ (ad : Nat → Nat → Nat) (n : Nat) (o : Nat → Int64) (d : Nat → UInt64) (σ τ : ST), Kn n o d σ τ → ad 8 0 = a0 → ∀ (H : Heap) (locs : List Loc) (ls : Array Slot), va_P (dC, dI) vwCl (Wl cA b1 b2 ad n o d σ ++ Wm cA adm τ) H → va_D (fun q : Nat => s.heap.size ≤ q) (Wl cA b1 b2 ad n o d σ ++ Wm cA adm τ) → va_S (fun q : Nat => s.heap.size ≤ q) s.heap H locs → lv_has ls 10 [(0, .ref b), (1, .ref (ad 8 0)), (2, .ref (adm 9 0)), (3, .ref b1), (4, .ref b2), (5, .int i)] → W p l e room_1 s m #[Value.ref b] below meth c H locs (cs + 2) (sl + 14) Q (F0 m 1025 ls []))
    (ad : Nat → Nat → Nat) (n : Nat) (o : Nat → Int64) (d : Nat → UInt64) (σ τ : ST) (hwp : wp_case0 xs L i n o d σ τ Kn) (had : ad 8 0 = a0) (H : Heap) (locs : List Loc) (ls : Array Slot) (hP : va_P (dC, dI) vwCl (Wl cA b1 b2 ad n o d σ ++ Wm cA adm τ) H) (hD : va_D (fun q : Nat => s.heap.size ≤ q) (Wl cA b1 b2 ad n o d σ ++ Wm cA adm τ)) (hS : va_S (fun q : Nat => s.heap.size ≤ q) s.heap H locs) (hl : lv_has ls 10 [(0, .ref b), (1, .ref (ad 8 0)), (2, .ref (adm 9 0)), (3, .ref b1), (4, .ref b2), (5, .int i)]) : W p l e room_1 s m #[Value.ref b] below meth c H locs cs sl Q (F0 m 116 ls []) := by
  obtain ⟨hx, hb, hml, hown, hts, hX, hbl, hK, hT, hfl⟩ := C
  have hA : ∀ q : Nat, s.heap.size ≤ q → (fun q : Nat => s.heap.size ≤ q) q := fun _ h => h
  have hbA : ¬ (fun q : Nat => s.heap.size ≤ q) b := Nat.not_le.mpr hbl
  unfold wp_case0 at hwp
  refine lv_aload_n hx hb dL_law_116 rfl (lv_at hl 1 rfl) ?_
  refine lv_aload_n hx hb dL_law_117 rfl (lv_at hl 0 rfl) ?_
  refine lv_iload hx hb dL_law_118 (lv_at hl 5 rfl) ?_
  refine lv_iconst (v := 1) hx hb dL_law_120 (by decide) ?_
  refine lv_iadd hx hb dL_law_121 ?_
  obtain ⟨hi_1, hwp⟩ := hwp
  refine va_sld hx hb hX hbl hbA hS hi_1 dL_law_122 ?_
  refine lv_aload_n hx hb dL_law_123 rfl (lv_at hl 0 rfl) ?_
  refine lv_iload hx hb dL_law_124 (lv_at hl 5 rfl) ?_
  refine lv_iconst (v := 2) hx hb dL_law_126 (by decide) ?_
  refine lv_iadd hx hb dL_law_127 ?_
  obtain ⟨hi_2, hwp⟩ := hwp
  refine va_sld hx hb hX hbl hbA hS hi_2 dL_law_128 ?_
  refine lv_aload_n hx hb dL_law_129 rfl (lv_at hl 0 rfl) ?_
  refine lv_iload hx hb dL_law_130 (lv_at hl 5 rfl) ?_
  refine lv_iconst (v := 3) hx hb dL_law_132 (by decide) ?_
  refine lv_iadd hx hb dL_law_133 ?_
  obtain ⟨hi_3, hwp⟩ := hwp
  refine va_sld hx hb hX hbl hbA hS hi_3 dL_law_134 ?_
  have hPc := lP hP
  have hDc := lD hD
  have hF := fA hDc hS hA
  refine vx_calli (vx_runSX (As := [.ref (ad 8 0), .int (xs (i + 1).toNatClampNeg), .int (xs (i + 2).toNatClampNeg), .int (xs (i + 3).toNatClampNeg)]) (rest := []) ⟨hx, hb, hml, hown, hts⟩ (c_L_kind l hfl dC dI cA b1 b2 ad n o d σ (xs (i + 1).toNatClampNeg) (xs (i + 2).toNatClampNeg) (xs (i + 3).toNatClampNeg) H.size _ hwp) (vx_cwSW 4 hts gL_law_L_kind rfl rfl rfl (by decide +kernel) ⟨Nat.le_of_ble_eq_true rfl, Nat.le_of_ble_eq_true rfl⟩) ⟨fbX, fun U hU hW => ⟨rfl, ⟨by rw [hU], by rw [hU]; exact hPc, va_K.moved hW.alike hK, hDc.weaken (fun _ _ _ _ => trivial)⟩, hT.move hW hS hU hF⟩⟩ rfl rfl hl.1 rfl (lv_room (Nat.le_of_ble_eq_true rfl)) dL_law_135 ⟨by show _ ≤ 601024; omega, by show _ ≤ 7293034; omega⟩) hS (fun q _ h => hF q h) hF (fun q _ h => hF q h) (fun E ce q9 u t H1 locs ht hvm hpx hBX hz1 hk1 hS1 hce hcv hcl => hpx.elim) (fun r4 u t H1 locs ht hvm hwp hB hz1 hk1 hS => ?_)
  obtain ⟨o, d, σ⟩ := u
  obtain ⟨hP1, hK1, hD1⟩ := hB
  rw [ht] at hP1
  obtain ⟨hP, hD⟩ := jL hP hD hk1 hF hP1 hD1
  generalize H1 = H at hP hS ⊢
  clear hPc hDc hF hP1 hD1 hK1 hk1 hz1
  refine lv_istore (lv' := [(6, .int r4), (0, .ref b), (1, .ref (ad 8 0)), (2, .ref (adm 9 0)), (3, .ref b1), (4, .ref b2), (5, .int i)]) hx hb dL_law_138 hl (by decide) rfl (fun ls hl => ?_)
  refine lv_aload_n hx hb dL_law_140 rfl (lv_at hl 3 rfl) ?_
  refine lv_aload_n hx hb dL_law_141 rfl (lv_at hl 1 rfl) ?_
  refine lv_iload hx hb dL_law_142 (lv_at hl 6 rfl) ?_
  refine lv_iconst (v := 1) hx hb dL_law_144 (by decide) ?_
  refine lv_iadd hx hb dL_law_145 ?_
  obtain ⟨hi_5, hwp⟩ := hwp
  refine va_sld hx hb hX hbl hbA hS hi_5 dL_law_146 ?_
  refine lv_aload_n hx hb dL_law_147 rfl (lv_at hl 1 rfl) ?_
  refine lv_iload hx hb dL_law_148 (lv_at hl 6 rfl) ?_
  refine lv_iconst (v := 2) hx hb dL_law_150 (by decide) ?_
  refine lv_iadd hx hb dL_law_151 ?_
  obtain ⟨hi_6, hwp⟩ := hwp
  refine va_sld hx hb hX hbl hbA hS hi_6 dL_law_152 ?_
  refine lv_aload_n hx hb dL_law_153 rfl (lv_at hl 1 rfl) ?_
  refine lv_iload hx hb dL_law_154 (lv_at hl 6 rfl) ?_
  refine lv_iconst (v := 3) hx hb dL_law_156 (by decide) ?_
  refine lv_iadd hx hb dL_law_157 ?_
  obtain ⟨hi_7, hwp⟩ := hwp
  refine va_sld hx hb hX hbl hbA hS hi_7 dL_law_158 ?_
  have hPc := rP hP
  have hDc := rD hD
  have hF := fA hDc hS hA
  refine va_callv (va_runV (As := [.int (xs (i + 1).toNatClampNeg), .int (xs (i + 2).toNatClampNeg), .int (xs (i + 3).toNatClampNeg)]) (rest := []) ⟨hx, hb, hml, hown, hts⟩ (c_X9_kind l dC dI cA adm τ (xs (i + 1).toNatClampNeg) (xs (i + 2).toNatClampNeg) (xs (i + 3).toNatClampNeg) H.size _ hwp) (cwV 3 hts gL_law_X9_kind rfl rfl rfl (by decide +kernel) ⟨Nat.le_of_ble_eq_true rfl, Nat.le_of_ble_eq_true rfl⟩) ⟨fbC, va_recv hK hPc (ci := 9) (q0 := 0) rfl atModel, fun U hU hW => ⟨rfl, by rw [hU], by rw [hU]; exact hPc, va_K.moved hW.alike hK, hDc.weaken (fun _ _ _ _ => trivial)⟩⟩ rfl rfl hl.1 rfl (lv_room (Nat.le_of_ble_eq_true rfl)) dL_law_159 ⟨by show _ ≤ 601024; omega, by show _ ≤ 7293034; omega⟩) hS (fun q _ h => hF q h) hF (fun τ t H1 locs ht hvm hwp hB hz1 hk1 hS => ?_)
  obtain ⟨hP1, hK1, hD1⟩ := hB
  rw [ht] at hP1
  obtain ⟨hP, hD⟩ := jR hP hD hk1 hF hP1 hD1
  have hP : va_P (dC, dI) vwCl (Wl cA b1 b2 ad n o d σ ++ Wm cA adm τ) H1 := hP
  have hD : va_D (fun q : Nat => s.heap.size ≤ q) (Wl cA b1 b2 ad n o d σ ++ Wm cA adm τ) := hD
  generalize H1 = H at hP hS ⊢
  clear hPc hDc hF hP1 hD1 hK1 hk1 hz1
  refine lv_aload_n hx hb dL_law_162 rfl (lv_at hl 3 rfl) ?_
  have hPc := rP hP
  have hDc := rD hD
  have hF := fA hDc hS hA
  refine va_calli (va_runV (As := []) (rest := []) ⟨hx, hb, hml, hown, hts⟩ (c_X9_thrown l dC dI cA adm τ  H.size _ hwp) (cwV 0 hts gL_law_X9_thrown rfl rfl rfl (by decide +kernel) ⟨Nat.le_of_ble_eq_true rfl, Nat.le_of_ble_eq_true rfl⟩) ⟨fbC, va_recv hK hPc (ci := 9) (q0 := 0) rfl atModel, fun U hU hW => ⟨rfl, by rw [hU], by rw [hU]; exact hPc, va_K.moved hW.alike hK, hDc.weaken (fun _ _ _ _ => trivial)⟩⟩ rfl rfl hl.1 rfl (lv_room (Nat.le_of_ble_eq_true rfl)) dL_law_163 ⟨by show _ ≤ 601024; omega, by show _ ≤ 7293034; omega⟩) hS (fun q _ h => hF q h) hF (fun r8 τ t H1 locs ht hvm hwp hB hz1 hk1 hS => ?_)
  obtain ⟨hP1, hK1, hD1⟩ := hB
  rw [ht] at hP1
  obtain ⟨hP, hD⟩ := jR hP hD hk1 hF hP1 hD1
  have hP : va_P (dC, dI) vwCl (Wl cA b1 b2 ad n o d σ ++ Wm cA adm τ) H1 := hP
  have hD : va_D (fun q : Nat => s.heap.size ≤ q) (Wl cA b1 b2 ad n o d σ ++ Wm cA adm τ) := hD
  generalize H1 = H at hP hS ⊢
  clear hPc hDc hF hP1 hD1 hK1 hk1 hz1
  refine lv_iload hx hb dL_law_166 (lv_at hl 0 rfl) ?_
  refine lv_icmp_eq (tgt := 173) hx hb dL_law_168 (by decide) (fun c_168 => ?_) (fun c_168 => ?_)
  · replace hwp := hwp.1 c_168
    refine lv_goto (tgt := 1025) hx hb dL_law_173 (by decide) ?_
    refine W.widen (k := cs + 2) (n := sl + 14) (by omega) (by omega) ?_
    exact hnext ad n o d σ τ hwp had _ _ _ hP hD hS (lv_sub hl [1, 2, 3, 4, 5, 6] rfl)
  · replace hwp := hwp.2 c_168
    refine lv_iconst (v := 0) hx hb dL_law_171 (by decide) ?_
    exact hwp.elim
def wp_case1 (xs : Nat → Int32) (L : Nat) (i : Int32) (n : Nat) (o : Nat → Int64) (d : Nat → UInt64) (σ τ : ST) (Kn : Nat → (Nat → Int64) → (Nat → UInt64) → ST → ST → Prop) : Prop := vp_in (i + 1) L ∧
vp_in (i + 2) L ∧
vf_n64 (FP.dmul (FP.i2d (xs (i + 2).toNatClampNeg)) 4593671619917905920) ∧
vp_in (i + 3) L ∧
vf_n64 (FP.dmul (FP.i2d (xs (i + 3).toNatClampNeg)) 4593671619917905920) ∧
vp_in (i + 4) L ∧
vf_n64 (FP.dmul (FP.i2d (xs (i + 4).toNatClampNeg)) 4593671619917905920) ∧
vp_in (i + 5) L ∧
vf_n64 (FP.dmul (FP.i2d (xs (i + 5).toNatClampNeg)) 4593671619917905920) ∧
wp_L_mean n o d σ (xs (i + 1).toNatClampNeg) (FP.dmul (FP.i2d (xs (i + 2).toNatClampNeg)) 4593671619917905920) (FP.dmul (FP.i2d (xs (i + 3).toNatClampNeg)) 4593671619917905920) (FP.dmul (FP.i2d (xs (i + 4).toNatClampNeg)) 4593671619917905920) (FP.dmul (FP.i2d (xs (i + 5).toNatClampNeg)) 4593671619917905920) (fun r6 o d σ =>
vp_in (i + 1) L ∧
vp_in (i + 2) L ∧
vf_n64 (FP.dmul (FP.i2d (xs (i + 2).toNatClampNeg)) 4593671619917905920) ∧
vp_in (i + 3) L ∧
vf_n64 (FP.dmul (FP.i2d (xs (i + 3).toNatClampNeg)) 4593671619917905920) ∧
vp_in (i + 4) L ∧
vf_n64 (FP.dmul (FP.i2d (xs (i + 4).toNatClampNeg)) 4593671619917905920) ∧
vp_in (i + 5) L ∧
vf_n64 (FP.dmul (FP.i2d (xs (i + 5).toNatClampNeg)) 4593671619917905920) ∧
wp_X9_mean τ (xs (i + 1).toNatClampNeg) (FP.dmul (FP.i2d (xs (i + 2).toNatClampNeg)) 4593671619917905920) (FP.dmul (FP.i2d (xs (i + 3).toNatClampNeg)) 4593671619917905920) (FP.dmul (FP.i2d (xs (i + 4).toNatClampNeg)) 4593671619917905920) (FP.dmul (FP.i2d (xs (i + 5).toNatClampNeg)) 4593671619917905920) (fun τ =>
wp_X9_thrown τ  (fun r12 τ =>
((r12 = r6 → (Kn n o d σ τ)) ∧ (¬ (r12 = r6) → (False)))
)
)
)
set_option maxHeartbeats 16000000 in
set_option maxRecDepth 100000 in
theorem law_case1 {p : Program} {l : Launch} {e : Env} {s : State} {m : MethodId} {below : List Frame} {meth : Method} {c : Code} {Q : State → Prop} {dC : Nat → ClassId} {dI : Nat → Nat → Nat} {cA : Nat → ClassId} {b1 b2 b L : Nat} {xs : Nat → Int32} {adm : Nat → Nat → Nat} {cs sl : Nat} (C : lcx p l s m c b L xs dC dI cA) (hcs : cs + 2 ≤ 601024) (hsl : sl + 14 ≤ 7293034) {a0 : Nat} (Kn : Nat → (Nat → Int64) → (Nat → UInt64) → ST → ST → Prop) {i : Int32} (hnext : ∀ (ad : Nat → Nat → Nat) (n : Nat) (o : Nat → Int64) (d : Nat → UInt64) (σ τ : ST), Kn n o d σ τ → ad 8 0 = a0 → ∀ (H : Heap) (locs : List Loc) (ls : Array Slot), va_P (dC, dI) vwCl (Wl cA b1 b2 ad n o d σ ++ Wm cA adm τ) H → va_D (fun q : Nat => s.heap.size ≤ q) (Wl cA b1 b2 ad n o d σ ++ Wm cA adm τ) → va_S (fun q : Nat => s.heap.size ≤ q) s.heap H locs → lv_has ls 10 [(0, .ref b), (1, .ref (ad 8 0)), (2, .ref (adm 9 0)), (3, .ref b1), (4, .ref b2), (5, .int i)] → W p l e room_1 s m #[Value.ref b] below meth c H locs (cs + 2) (sl + 14) Q (F0 m 1025 ls []))
    (ad : Nat → Nat → Nat) (n : Nat) (o : Nat → Int64) (d : Nat → UInt64) (σ τ : ST) (hwp : wp_case1 xs L i n o d σ τ Kn) (had : ad 8 0 = a0) (H : Heap) (locs : List Loc) (ls : Array Slot) (hP : va_P (dC, dI) vwCl (Wl cA b1 b2 ad n o d σ ++ Wm cA adm τ) H) (hD : va_D (fun q : Nat => s.heap.size ≤ q) (Wl cA b1 b2 ad n o d σ ++ Wm cA adm τ)) (hS : va_S (fun q : Nat => s.heap.size ≤ q) s.heap H locs) (hl : lv_has ls 10 [(0, .ref b), (1, .ref (ad 8 0)), (2, .ref (adm 9 0)), (3, .ref b1), (4, .ref b2), (5, .int i)]) : W p l e room_1 s m #[Value.ref b] below meth c H locs cs sl Q (F0 m 176 ls []) := by
  obtain ⟨hx, hb, hml, hown, hts, hX, hbl, hK, hT, hfl⟩ := C
  have hA : ∀ q : Nat, s.heap.size ≤ q → (fun q : Nat => s.heap.size ≤ q) q := fun _ h => h
  have hbA : ¬ (fun q : Nat => s.heap.size ≤ q) b := Nat.not_le.mpr hbl
  unfold wp_case1 at hwp
  refine lv_aload_n hx hb dL_law_176 rfl (lv_at hl 1 rfl) ?_
  refine lv_aload_n hx hb dL_law_177 rfl (lv_at hl 0 rfl) ?_
  refine lv_iload hx hb dL_law_178 (lv_at hl 5 rfl) ?_
  refine lv_iconst (v := 1) hx hb dL_law_180 (by decide) ?_
  refine lv_iadd hx hb dL_law_181 ?_
  obtain ⟨hi_1, hwp⟩ := hwp
  refine va_sld hx hb hX hbl hbA hS hi_1 dL_law_182 ?_
  refine lv_aload_n hx hb dL_law_183 rfl (lv_at hl 0 rfl) ?_
  refine lv_iload hx hb dL_law_184 (lv_at hl 5 rfl) ?_
  refine lv_iconst (v := 2) hx hb dL_law_186 (by decide) ?_
  refine lv_iadd hx hb dL_law_187 ?_
  obtain ⟨hi_2, hwp⟩ := hwp
  refine va_sld hx hb hX hbl hbA hS hi_2 dL_law_188 ?_
  refine lv_i2d hx hb dL_law_189 ?_
  refine lv_ldc2d (v := 4593671619917905920) hx hb hown (hts (.constantDouble RL 69 (4593671619917905920)) (by decide +kernel)) dL_law_190 ?_
  refine lv_dmul hx hb dL_law_193 hwp.1 ?_
  replace hwp := hwp.2
  refine lv_aload_n hx hb dL_law_194 rfl (lv_at hl 0 rfl) ?_
  refine lv_iload hx hb dL_law_195 (lv_at hl 5 rfl) ?_
  refine lv_iconst (v := 3) hx hb dL_law_197 (by decide) ?_
  refine lv_iadd hx hb dL_law_198 ?_
  obtain ⟨hi_3, hwp⟩ := hwp
  refine va_sld hx hb hX hbl hbA hS hi_3 dL_law_199 ?_
  refine lv_i2d hx hb dL_law_200 ?_
  refine lv_ldc2d (v := 4593671619917905920) hx hb hown (hts (.constantDouble RL 69 (4593671619917905920)) (by decide +kernel)) dL_law_201 ?_
  refine lv_dmul hx hb dL_law_204 hwp.1 ?_
  replace hwp := hwp.2
  refine lv_aload_n hx hb dL_law_205 rfl (lv_at hl 0 rfl) ?_
  refine lv_iload hx hb dL_law_206 (lv_at hl 5 rfl) ?_
  refine lv_iconst (v := 4) hx hb dL_law_208 (by decide) ?_
  refine lv_iadd hx hb dL_law_209 ?_
  obtain ⟨hi_4, hwp⟩ := hwp
  refine va_sld hx hb hX hbl hbA hS hi_4 dL_law_210 ?_
  refine lv_i2d hx hb dL_law_211 ?_
  refine lv_ldc2d (v := 4593671619917905920) hx hb hown (hts (.constantDouble RL 69 (4593671619917905920)) (by decide +kernel)) dL_law_212 ?_
  refine lv_dmul hx hb dL_law_215 hwp.1 ?_
  replace hwp := hwp.2
  refine lv_aload_n hx hb dL_law_216 rfl (lv_at hl 0 rfl) ?_
  refine lv_iload hx hb dL_law_217 (lv_at hl 5 rfl) ?_
  refine lv_iconst (v := 5) hx hb dL_law_219 (by decide) ?_
  refine lv_iadd hx hb dL_law_220 ?_
  obtain ⟨hi_5, hwp⟩ := hwp
  refine va_sld hx hb hX hbl hbA hS hi_5 dL_law_221 ?_
  refine lv_i2d hx hb dL_law_222 ?_
  refine lv_ldc2d (v := 4593671619917905920) hx hb hown (hts (.constantDouble RL 69 (4593671619917905920)) (by decide +kernel)) dL_law_223 ?_
  refine lv_dmul hx hb dL_law_226 hwp.1 ?_
  replace hwp := hwp.2
  have hPc := lP hP
  have hDc := lD hD
  have hF := fA hDc hS hA
  refine vx_calli (vx_runSX (As := [.ref (ad 8 0), .int (xs (i + 1).toNatClampNeg), .double (FP.dmul (FP.i2d (xs (i + 2).toNatClampNeg)) 4593671619917905920), .double (FP.dmul (FP.i2d (xs (i + 3).toNatClampNeg)) 4593671619917905920), .double (FP.dmul (FP.i2d (xs (i + 4).toNatClampNeg)) 4593671619917905920), .double (FP.dmul (FP.i2d (xs (i + 5).toNatClampNeg)) 4593671619917905920)]) (rest := []) ⟨hx, hb, hml, hown, hts⟩ (c_L_mean l hfl dC dI cA b1 b2 ad n o d σ (xs (i + 1).toNatClampNeg) (FP.dmul (FP.i2d (xs (i + 2).toNatClampNeg)) 4593671619917905920) (FP.dmul (FP.i2d (xs (i + 3).toNatClampNeg)) 4593671619917905920) (FP.dmul (FP.i2d (xs (i + 4).toNatClampNeg)) 4593671619917905920) (FP.dmul (FP.i2d (xs (i + 5).toNatClampNeg)) 4593671619917905920) H.size _ hwp) (vx_cwSW 6 hts gL_law_L_mean rfl rfl rfl (by decide +kernel) ⟨Nat.le_of_ble_eq_true rfl, Nat.le_of_ble_eq_true rfl⟩) ⟨fbX, fun U hU hW => ⟨rfl, ⟨by rw [hU], by rw [hU]; exact hPc, va_K.moved hW.alike hK, hDc.weaken (fun _ _ _ _ => trivial)⟩, hT.move hW hS hU hF⟩⟩ rfl rfl hl.1 rfl (lv_room (Nat.le_of_ble_eq_true rfl)) dL_law_227 ⟨by show _ ≤ 601024; omega, by show _ ≤ 7293034; omega⟩) hS (fun q _ h => hF q h) hF (fun q _ h => hF q h) (fun E ce q9 u t H1 locs ht hvm hpx hBX hz1 hk1 hS1 hce hcv hcl => hpx.elim) (fun r6 u t H1 locs ht hvm hwp hB hz1 hk1 hS => ?_)
  obtain ⟨o, d, σ⟩ := u
  obtain ⟨hP1, hK1, hD1⟩ := hB
  rw [ht] at hP1
  obtain ⟨hP, hD⟩ := jL hP hD hk1 hF hP1 hD1
  generalize H1 = H at hP hS ⊢
  clear hPc hDc hF hP1 hD1 hK1 hk1 hz1
  refine lv_istore (lv' := [(6, .int r6), (0, .ref b), (1, .ref (ad 8 0)), (2, .ref (adm 9 0)), (3, .ref b1), (4, .ref b2), (5, .int i)]) hx hb dL_law_230 hl (by decide) rfl (fun ls hl => ?_)
  refine lv_aload_n hx hb dL_law_232 rfl (lv_at hl 3 rfl) ?_
  refine lv_aload_n hx hb dL_law_233 rfl (lv_at hl 1 rfl) ?_
  refine lv_iload hx hb dL_law_234 (lv_at hl 6 rfl) ?_
  refine lv_iconst (v := 1) hx hb dL_law_236 (by decide) ?_
  refine lv_iadd hx hb dL_law_237 ?_
  obtain ⟨hi_7, hwp⟩ := hwp
  refine va_sld hx hb hX hbl hbA hS hi_7 dL_law_238 ?_
  refine lv_aload_n hx hb dL_law_239 rfl (lv_at hl 1 rfl) ?_
  refine lv_iload hx hb dL_law_240 (lv_at hl 6 rfl) ?_
  refine lv_iconst (v := 2) hx hb dL_law_242 (by decide) ?_
  refine lv_iadd hx hb dL_law_243 ?_
  obtain ⟨hi_8, hwp⟩ := hwp
  refine va_sld hx hb hX hbl hbA hS hi_8 dL_law_244 ?_
  refine lv_i2d hx hb dL_law_245 ?_
  refine lv_ldc2d (v := 4593671619917905920) hx hb hown (hts (.constantDouble RL 69 (4593671619917905920)) (by decide +kernel)) dL_law_246 ?_
  refine lv_dmul hx hb dL_law_249 hwp.1 ?_
  replace hwp := hwp.2
  refine lv_aload_n hx hb dL_law_250 rfl (lv_at hl 1 rfl) ?_
  refine lv_iload hx hb dL_law_251 (lv_at hl 6 rfl) ?_
  refine lv_iconst (v := 3) hx hb dL_law_253 (by decide) ?_
  refine lv_iadd hx hb dL_law_254 ?_
  obtain ⟨hi_9, hwp⟩ := hwp
  refine va_sld hx hb hX hbl hbA hS hi_9 dL_law_255 ?_
  refine lv_i2d hx hb dL_law_256 ?_
  refine lv_ldc2d (v := 4593671619917905920) hx hb hown (hts (.constantDouble RL 69 (4593671619917905920)) (by decide +kernel)) dL_law_257 ?_
  refine lv_dmul hx hb dL_law_260 hwp.1 ?_
  replace hwp := hwp.2
  refine lv_aload_n hx hb dL_law_261 rfl (lv_at hl 1 rfl) ?_
  refine lv_iload hx hb dL_law_262 (lv_at hl 6 rfl) ?_
  refine lv_iconst (v := 4) hx hb dL_law_264 (by decide) ?_
  refine lv_iadd hx hb dL_law_265 ?_
  obtain ⟨hi_10, hwp⟩ := hwp
  refine va_sld hx hb hX hbl hbA hS hi_10 dL_law_266 ?_
  refine lv_i2d hx hb dL_law_267 ?_
  refine lv_ldc2d (v := 4593671619917905920) hx hb hown (hts (.constantDouble RL 69 (4593671619917905920)) (by decide +kernel)) dL_law_268 ?_
  refine lv_dmul hx hb dL_law_271 hwp.1 ?_
  replace hwp := hwp.2
  refine lv_aload_n hx hb dL_law_272 rfl (lv_at hl 1 rfl) ?_
  refine lv_iload hx hb dL_law_273 (lv_at hl 6 rfl) ?_
  refine lv_iconst (v := 5) hx hb dL_law_275 (by decide) ?_
  refine lv_iadd hx hb dL_law_276 ?_
  obtain ⟨hi_11, hwp⟩ := hwp
  refine va_sld hx hb hX hbl hbA hS hi_11 dL_law_277 ?_
  refine lv_i2d hx hb dL_law_278 ?_
  refine lv_ldc2d (v := 4593671619917905920) hx hb hown (hts (.constantDouble RL 69 (4593671619917905920)) (by decide +kernel)) dL_law_279 ?_
  refine lv_dmul hx hb dL_law_282 hwp.1 ?_
  replace hwp := hwp.2
  have hPc := rP hP
  have hDc := rD hD
  have hF := fA hDc hS hA
  refine va_callv (va_runV (As := [.int (xs (i + 1).toNatClampNeg), .double (FP.dmul (FP.i2d (xs (i + 2).toNatClampNeg)) 4593671619917905920), .double (FP.dmul (FP.i2d (xs (i + 3).toNatClampNeg)) 4593671619917905920), .double (FP.dmul (FP.i2d (xs (i + 4).toNatClampNeg)) 4593671619917905920), .double (FP.dmul (FP.i2d (xs (i + 5).toNatClampNeg)) 4593671619917905920)]) (rest := []) ⟨hx, hb, hml, hown, hts⟩ (c_X9_mean l dC dI cA adm τ (xs (i + 1).toNatClampNeg) (FP.dmul (FP.i2d (xs (i + 2).toNatClampNeg)) 4593671619917905920) (FP.dmul (FP.i2d (xs (i + 3).toNatClampNeg)) 4593671619917905920) (FP.dmul (FP.i2d (xs (i + 4).toNatClampNeg)) 4593671619917905920) (FP.dmul (FP.i2d (xs (i + 5).toNatClampNeg)) 4593671619917905920) H.size _ hwp) (cwV 5 hts gL_law_X9_mean rfl rfl rfl (by decide +kernel) ⟨Nat.le_of_ble_eq_true rfl, Nat.le_of_ble_eq_true rfl⟩) ⟨fbC, va_recv hK hPc (ci := 9) (q0 := 0) rfl atModel, fun U hU hW => ⟨rfl, by rw [hU], by rw [hU]; exact hPc, va_K.moved hW.alike hK, hDc.weaken (fun _ _ _ _ => trivial)⟩⟩ rfl rfl hl.1 rfl (lv_room (Nat.le_of_ble_eq_true rfl)) dL_law_283 ⟨by show _ ≤ 601024; omega, by show _ ≤ 7293034; omega⟩) hS (fun q _ h => hF q h) hF (fun τ t H1 locs ht hvm hwp hB hz1 hk1 hS => ?_)
  obtain ⟨hP1, hK1, hD1⟩ := hB
  rw [ht] at hP1
  obtain ⟨hP, hD⟩ := jR hP hD hk1 hF hP1 hD1
  have hP : va_P (dC, dI) vwCl (Wl cA b1 b2 ad n o d σ ++ Wm cA adm τ) H1 := hP
  have hD : va_D (fun q : Nat => s.heap.size ≤ q) (Wl cA b1 b2 ad n o d σ ++ Wm cA adm τ) := hD
  generalize H1 = H at hP hS ⊢
  clear hPc hDc hF hP1 hD1 hK1 hk1 hz1
  refine lv_aload_n hx hb dL_law_286 rfl (lv_at hl 3 rfl) ?_
  have hPc := rP hP
  have hDc := rD hD
  have hF := fA hDc hS hA
  refine va_calli (va_runV (As := []) (rest := []) ⟨hx, hb, hml, hown, hts⟩ (c_X9_thrown l dC dI cA adm τ  H.size _ hwp) (cwV 0 hts gL_law_X9_thrown rfl rfl rfl (by decide +kernel) ⟨Nat.le_of_ble_eq_true rfl, Nat.le_of_ble_eq_true rfl⟩) ⟨fbC, va_recv hK hPc (ci := 9) (q0 := 0) rfl atModel, fun U hU hW => ⟨rfl, by rw [hU], by rw [hU]; exact hPc, va_K.moved hW.alike hK, hDc.weaken (fun _ _ _ _ => trivial)⟩⟩ rfl rfl hl.1 rfl (lv_room (Nat.le_of_ble_eq_true rfl)) dL_law_287 ⟨by show _ ≤ 601024; omega, by show _ ≤ 7293034; omega⟩) hS (fun q _ h => hF q h) hF (fun r12 τ t H1 locs ht hvm hwp hB hz1 hk1 hS => ?_)
  obtain ⟨hP1, hK1, hD1⟩ := hB
  rw [ht] at hP1
  obtain ⟨hP, hD⟩ := jR hP hD hk1 hF hP1 hD1
  have hP : va_P (dC, dI) vwCl (Wl cA b1 b2 ad n o d σ ++ Wm cA adm τ) H1 := hP
  have hD : va_D (fun q : Nat => s.heap.size ≤ q) (Wl cA b1 b2 ad n o d σ ++ Wm cA adm τ) := hD
  generalize H1 = H at hP hS ⊢
  clear hPc hDc hF hP1 hD1 hK1 hk1 hz1
  refine lv_iload hx hb dL_law_290 (lv_at hl 0 rfl) ?_
  refine lv_icmp_eq (tgt := 297) hx hb dL_law_292 (by decide) (fun c_292 => ?_) (fun c_292 => ?_)
  · replace hwp := hwp.1 c_292
    refine lv_goto (tgt := 1025) hx hb dL_law_297 (by decide) ?_
    refine W.widen (k := cs + 2) (n := sl + 14) (by omega) (by omega) ?_
    exact hnext ad n o d σ τ hwp had _ _ _ hP hD hS (lv_sub hl [1, 2, 3, 4, 5, 6] rfl)
  · replace hwp := hwp.2 c_292
    refine lv_iconst (v := 0) hx hb dL_law_295 (by decide) ?_
    exact hwp.elim
def wp_case2 (xs : Nat → Int32) (L : Nat) (i : Int32) (n : Nat) (o : Nat → Int64) (d : Nat → UInt64) (σ τ : ST) (Kn : Nat → (Nat → Int64) → (Nat → UInt64) → ST → ST → Prop) : Prop := vp_in (i + 1) L ∧
vp_in (i + 2) L ∧
vf_n64 (FP.dmul (FP.i2d (xs (i + 2).toNatClampNeg)) 4593671619917905920) ∧
vp_in (i + 3) L ∧
vf_n64 (FP.dmul (FP.i2d (xs (i + 3).toNatClampNeg)) 4593671619917905920) ∧
wp_L_delay n o d σ (xs (i + 1).toNatClampNeg) (FP.dmul (FP.i2d (xs (i + 2).toNatClampNeg)) 4593671619917905920) (FP.dmul (FP.i2d (xs (i + 3).toNatClampNeg)) 4593671619917905920) (fun r4 o d σ =>
vp_in (i + 1) L ∧
vp_in (i + 2) L ∧
vf_n64 (FP.dmul (FP.i2d (xs (i + 2).toNatClampNeg)) 4593671619917905920) ∧
vp_in (i + 3) L ∧
vf_n64 (FP.dmul (FP.i2d (xs (i + 3).toNatClampNeg)) 4593671619917905920) ∧
wp_X9_delay τ (xs (i + 1).toNatClampNeg) (FP.dmul (FP.i2d (xs (i + 2).toNatClampNeg)) 4593671619917905920) (FP.dmul (FP.i2d (xs (i + 3).toNatClampNeg)) 4593671619917905920) (fun τ =>
wp_X9_thrown τ  (fun r8 τ =>
((r8 = r4 → (Kn n o d σ τ)) ∧ (¬ (r8 = r4) → (False)))
)
)
)
set_option maxHeartbeats 16000000 in
set_option maxRecDepth 100000 in
theorem law_case2 {p : Program} {l : Launch} {e : Env} {s : State} {m : MethodId} {below : List Frame} {meth : Method} {c : Code} {Q : State → Prop} {dC : Nat → ClassId} {dI : Nat → Nat → Nat} {cA : Nat → ClassId} {b1 b2 b L : Nat} {xs : Nat → Int32} {adm : Nat → Nat → Nat} {cs sl : Nat} (C : lcx p l s m c b L xs dC dI cA) (hcs : cs + 2 ≤ 601024) (hsl : sl + 14 ≤ 7293034) {a0 : Nat} (Kn : Nat → (Nat → Int64) → (Nat → UInt64) → ST → ST → Prop) {i : Int32} (hnext : ∀ (ad : Nat → Nat → Nat) (n : Nat) (o : Nat → Int64) (d : Nat → UInt64) (σ τ : ST), Kn n o d σ τ → ad 8 0 = a0 → ∀ (H : Heap) (locs : List Loc) (ls : Array Slot), va_P (dC, dI) vwCl (Wl cA b1 b2 ad n o d σ ++ Wm cA adm τ) H → va_D (fun q : Nat => s.heap.size ≤ q) (Wl cA b1 b2 ad n o d σ ++ Wm cA adm τ) → va_S (fun q : Nat => s.heap.size ≤ q) s.heap H locs → lv_has ls 10 [(0, .ref b), (1, .ref (ad 8 0)), (2, .ref (adm 9 0)), (3, .ref b1), (4, .ref b2), (5, .int i)] → W p l e room_1 s m #[Value.ref b] below meth c H locs (cs + 2) (sl + 14) Q (F0 m 1025 ls []))
    (ad : Nat → Nat → Nat) (n : Nat) (o : Nat → Int64) (d : Nat → UInt64) (σ τ : ST) (hwp : wp_case2 xs L i n o d σ τ Kn) (had : ad 8 0 = a0) (H : Heap) (locs : List Loc) (ls : Array Slot) (hP : va_P (dC, dI) vwCl (Wl cA b1 b2 ad n o d σ ++ Wm cA adm τ) H) (hD : va_D (fun q : Nat => s.heap.size ≤ q) (Wl cA b1 b2 ad n o d σ ++ Wm cA adm τ)) (hS : va_S (fun q : Nat => s.heap.size ≤ q) s.heap H locs) (hl : lv_has ls 10 [(0, .ref b), (1, .ref (ad 8 0)), (2, .ref (adm 9 0)), (3, .ref b1), (4, .ref b2), (5, .int i)]) : W p l e room_1 s m #[Value.ref b] below meth c H locs cs sl Q (F0 m 300 ls []) := by
  obtain ⟨hx, hb, hml, hown, hts, hX, hbl, hK, hT, hfl⟩ := C
  have hA : ∀ q : Nat, s.heap.size ≤ q → (fun q : Nat => s.heap.size ≤ q) q := fun _ h => h
  have hbA : ¬ (fun q : Nat => s.heap.size ≤ q) b := Nat.not_le.mpr hbl
  unfold wp_case2 at hwp
  refine lv_aload_n hx hb dL_law_300 rfl (lv_at hl 1 rfl) ?_
  refine lv_aload_n hx hb dL_law_301 rfl (lv_at hl 0 rfl) ?_
  refine lv_iload hx hb dL_law_302 (lv_at hl 5 rfl) ?_
  refine lv_iconst (v := 1) hx hb dL_law_304 (by decide) ?_
  refine lv_iadd hx hb dL_law_305 ?_
  obtain ⟨hi_1, hwp⟩ := hwp
  refine va_sld hx hb hX hbl hbA hS hi_1 dL_law_306 ?_
  refine lv_aload_n hx hb dL_law_307 rfl (lv_at hl 0 rfl) ?_
  refine lv_iload hx hb dL_law_308 (lv_at hl 5 rfl) ?_
  refine lv_iconst (v := 2) hx hb dL_law_310 (by decide) ?_
  refine lv_iadd hx hb dL_law_311 ?_
  obtain ⟨hi_2, hwp⟩ := hwp
  refine va_sld hx hb hX hbl hbA hS hi_2 dL_law_312 ?_
  refine lv_i2d hx hb dL_law_313 ?_
  refine lv_ldc2d (v := 4593671619917905920) hx hb hown (hts (.constantDouble RL 69 (4593671619917905920)) (by decide +kernel)) dL_law_314 ?_
  refine lv_dmul hx hb dL_law_317 hwp.1 ?_
  replace hwp := hwp.2
  refine lv_aload_n hx hb dL_law_318 rfl (lv_at hl 0 rfl) ?_
  refine lv_iload hx hb dL_law_319 (lv_at hl 5 rfl) ?_
  refine lv_iconst (v := 3) hx hb dL_law_321 (by decide) ?_
  refine lv_iadd hx hb dL_law_322 ?_
  obtain ⟨hi_3, hwp⟩ := hwp
  refine va_sld hx hb hX hbl hbA hS hi_3 dL_law_323 ?_
  refine lv_i2d hx hb dL_law_324 ?_
  refine lv_ldc2d (v := 4593671619917905920) hx hb hown (hts (.constantDouble RL 69 (4593671619917905920)) (by decide +kernel)) dL_law_325 ?_
  refine lv_dmul hx hb dL_law_328 hwp.1 ?_
  replace hwp := hwp.2
  have hPc := lP hP
  have hDc := lD hD
  have hF := fA hDc hS hA
  refine vx_calli (vx_runSX (As := [.ref (ad 8 0), .int (xs (i + 1).toNatClampNeg), .double (FP.dmul (FP.i2d (xs (i + 2).toNatClampNeg)) 4593671619917905920), .double (FP.dmul (FP.i2d (xs (i + 3).toNatClampNeg)) 4593671619917905920)]) (rest := []) ⟨hx, hb, hml, hown, hts⟩ (c_L_delay l hfl dC dI cA b1 b2 ad n o d σ (xs (i + 1).toNatClampNeg) (FP.dmul (FP.i2d (xs (i + 2).toNatClampNeg)) 4593671619917905920) (FP.dmul (FP.i2d (xs (i + 3).toNatClampNeg)) 4593671619917905920) H.size _ hwp) (vx_cwSW 4 hts gL_law_L_delay rfl rfl rfl (by decide +kernel) ⟨Nat.le_of_ble_eq_true rfl, Nat.le_of_ble_eq_true rfl⟩) ⟨fbX, fun U hU hW => ⟨rfl, ⟨by rw [hU], by rw [hU]; exact hPc, va_K.moved hW.alike hK, hDc.weaken (fun _ _ _ _ => trivial)⟩, hT.move hW hS hU hF⟩⟩ rfl rfl hl.1 rfl (lv_room (Nat.le_of_ble_eq_true rfl)) dL_law_329 ⟨by show _ ≤ 601024; omega, by show _ ≤ 7293034; omega⟩) hS (fun q _ h => hF q h) hF (fun q _ h => hF q h) (fun E ce q9 u t H1 locs ht hvm hpx hBX hz1 hk1 hS1 hce hcv hcl => hpx.elim) (fun r4 u t H1 locs ht hvm hwp hB hz1 hk1 hS => ?_)
  obtain ⟨o, d, σ⟩ := u
  obtain ⟨hP1, hK1, hD1⟩ := hB
  rw [ht] at hP1
  obtain ⟨hP, hD⟩ := jL hP hD hk1 hF hP1 hD1
  generalize H1 = H at hP hS ⊢
  clear hPc hDc hF hP1 hD1 hK1 hk1 hz1
  refine lv_istore (lv' := [(6, .int r4), (0, .ref b), (1, .ref (ad 8 0)), (2, .ref (adm 9 0)), (3, .ref b1), (4, .ref b2), (5, .int i)]) hx hb dL_law_332 hl (by decide) rfl (fun ls hl => ?_)
  refine lv_aload_n hx hb dL_law_334 rfl (lv_at hl 3 rfl) ?_
  refine lv_aload_n hx hb dL_law_335 rfl (lv_at hl 1 rfl) ?_
  refine lv_iload hx hb dL_law_336 (lv_at hl 6 rfl) ?_
  refine lv_iconst (v := 1) hx hb dL_law_338 (by decide) ?_
  refine lv_iadd hx hb dL_law_339 ?_
  obtain ⟨hi_5, hwp⟩ := hwp
  refine va_sld hx hb hX hbl hbA hS hi_5 dL_law_340 ?_
  refine lv_aload_n hx hb dL_law_341 rfl (lv_at hl 1 rfl) ?_
  refine lv_iload hx hb dL_law_342 (lv_at hl 6 rfl) ?_
  refine lv_iconst (v := 2) hx hb dL_law_344 (by decide) ?_
  refine lv_iadd hx hb dL_law_345 ?_
  obtain ⟨hi_6, hwp⟩ := hwp
  refine va_sld hx hb hX hbl hbA hS hi_6 dL_law_346 ?_
  refine lv_i2d hx hb dL_law_347 ?_
  refine lv_ldc2d (v := 4593671619917905920) hx hb hown (hts (.constantDouble RL 69 (4593671619917905920)) (by decide +kernel)) dL_law_348 ?_
  refine lv_dmul hx hb dL_law_351 hwp.1 ?_
  replace hwp := hwp.2
  refine lv_aload_n hx hb dL_law_352 rfl (lv_at hl 1 rfl) ?_
  refine lv_iload hx hb dL_law_353 (lv_at hl 6 rfl) ?_
  refine lv_iconst (v := 3) hx hb dL_law_355 (by decide) ?_
  refine lv_iadd hx hb dL_law_356 ?_
  obtain ⟨hi_7, hwp⟩ := hwp
  refine va_sld hx hb hX hbl hbA hS hi_7 dL_law_357 ?_
  refine lv_i2d hx hb dL_law_358 ?_
  refine lv_ldc2d (v := 4593671619917905920) hx hb hown (hts (.constantDouble RL 69 (4593671619917905920)) (by decide +kernel)) dL_law_359 ?_
  refine lv_dmul hx hb dL_law_362 hwp.1 ?_
  replace hwp := hwp.2
  have hPc := rP hP
  have hDc := rD hD
  have hF := fA hDc hS hA
  refine va_callv (va_runV (As := [.int (xs (i + 1).toNatClampNeg), .double (FP.dmul (FP.i2d (xs (i + 2).toNatClampNeg)) 4593671619917905920), .double (FP.dmul (FP.i2d (xs (i + 3).toNatClampNeg)) 4593671619917905920)]) (rest := []) ⟨hx, hb, hml, hown, hts⟩ (c_X9_delay l dC dI cA adm τ (xs (i + 1).toNatClampNeg) (FP.dmul (FP.i2d (xs (i + 2).toNatClampNeg)) 4593671619917905920) (FP.dmul (FP.i2d (xs (i + 3).toNatClampNeg)) 4593671619917905920) H.size _ hwp) (cwV 3 hts gL_law_X9_delay rfl rfl rfl (by decide +kernel) ⟨Nat.le_of_ble_eq_true rfl, Nat.le_of_ble_eq_true rfl⟩) ⟨fbC, va_recv hK hPc (ci := 9) (q0 := 0) rfl atModel, fun U hU hW => ⟨rfl, by rw [hU], by rw [hU]; exact hPc, va_K.moved hW.alike hK, hDc.weaken (fun _ _ _ _ => trivial)⟩⟩ rfl rfl hl.1 rfl (lv_room (Nat.le_of_ble_eq_true rfl)) dL_law_363 ⟨by show _ ≤ 601024; omega, by show _ ≤ 7293034; omega⟩) hS (fun q _ h => hF q h) hF (fun τ t H1 locs ht hvm hwp hB hz1 hk1 hS => ?_)
  obtain ⟨hP1, hK1, hD1⟩ := hB
  rw [ht] at hP1
  obtain ⟨hP, hD⟩ := jR hP hD hk1 hF hP1 hD1
  have hP : va_P (dC, dI) vwCl (Wl cA b1 b2 ad n o d σ ++ Wm cA adm τ) H1 := hP
  have hD : va_D (fun q : Nat => s.heap.size ≤ q) (Wl cA b1 b2 ad n o d σ ++ Wm cA adm τ) := hD
  generalize H1 = H at hP hS ⊢
  clear hPc hDc hF hP1 hD1 hK1 hk1 hz1
  refine lv_aload_n hx hb dL_law_366 rfl (lv_at hl 3 rfl) ?_
  have hPc := rP hP
  have hDc := rD hD
  have hF := fA hDc hS hA
  refine va_calli (va_runV (As := []) (rest := []) ⟨hx, hb, hml, hown, hts⟩ (c_X9_thrown l dC dI cA adm τ  H.size _ hwp) (cwV 0 hts gL_law_X9_thrown rfl rfl rfl (by decide +kernel) ⟨Nat.le_of_ble_eq_true rfl, Nat.le_of_ble_eq_true rfl⟩) ⟨fbC, va_recv hK hPc (ci := 9) (q0 := 0) rfl atModel, fun U hU hW => ⟨rfl, by rw [hU], by rw [hU]; exact hPc, va_K.moved hW.alike hK, hDc.weaken (fun _ _ _ _ => trivial)⟩⟩ rfl rfl hl.1 rfl (lv_room (Nat.le_of_ble_eq_true rfl)) dL_law_367 ⟨by show _ ≤ 601024; omega, by show _ ≤ 7293034; omega⟩) hS (fun q _ h => hF q h) hF (fun r8 τ t H1 locs ht hvm hwp hB hz1 hk1 hS => ?_)
  obtain ⟨hP1, hK1, hD1⟩ := hB
  rw [ht] at hP1
  obtain ⟨hP, hD⟩ := jR hP hD hk1 hF hP1 hD1
  have hP : va_P (dC, dI) vwCl (Wl cA b1 b2 ad n o d σ ++ Wm cA adm τ) H1 := hP
  have hD : va_D (fun q : Nat => s.heap.size ≤ q) (Wl cA b1 b2 ad n o d σ ++ Wm cA adm τ) := hD
  generalize H1 = H at hP hS ⊢
  clear hPc hDc hF hP1 hD1 hK1 hk1 hz1
  refine lv_iload hx hb dL_law_370 (lv_at hl 0 rfl) ?_
  refine lv_icmp_eq (tgt := 377) hx hb dL_law_372 (by decide) (fun c_372 => ?_) (fun c_372 => ?_)
  · replace hwp := hwp.1 c_372
    refine lv_goto (tgt := 1025) hx hb dL_law_377 (by decide) ?_
    refine W.widen (k := cs + 2) (n := sl + 14) (by omega) (by omega) ?_
    exact hnext ad n o d σ τ hwp had _ _ _ hP hD hS (lv_sub hl [1, 2, 3, 4, 5, 6] rfl)
  · replace hwp := hwp.2 c_372
    refine lv_iconst (v := 0) hx hb dL_law_375 (by decide) ?_
    exact hwp.elim
def wp_case3 (xs : Nat → Int32) (L : Nat) (i : Int32) (n : Nat) (o : Nat → Int64) (d : Nat → UInt64) (σ τ : ST) (Kn : Nat → (Nat → Int64) → (Nat → UInt64) → ST → ST → Prop) : Prop := vp_in (i + 1) L ∧
vf_n64 (FP.dmul (FP.i2d (xs (i + 1).toNatClampNeg)) 4593671619917905920) ∧
vp_in (i + 2) L ∧
wp_L_link n o d σ (FP.dmul (FP.i2d (xs (i + 1).toNatClampNeg)) 4593671619917905920) (xs (i + 2).toNatClampNeg) (fun r3 o d σ =>
vp_in (i + 1) L ∧
vf_n64 (FP.dmul (FP.i2d (xs (i + 1).toNatClampNeg)) 4593671619917905920) ∧
vp_in (i + 2) L ∧
wp_X9_link τ (FP.dmul (FP.i2d (xs (i + 1).toNatClampNeg)) 4593671619917905920) (xs (i + 2).toNatClampNeg) (fun τ =>
wp_X9_thrown τ  (fun r6 τ =>
((r6 = r3 → (Kn n o d σ τ)) ∧ (¬ (r6 = r3) → (False)))
)
)
)
set_option maxHeartbeats 16000000 in
set_option maxRecDepth 100000 in
theorem law_case3 {p : Program} {l : Launch} {e : Env} {s : State} {m : MethodId} {below : List Frame} {meth : Method} {c : Code} {Q : State → Prop} {dC : Nat → ClassId} {dI : Nat → Nat → Nat} {cA : Nat → ClassId} {b1 b2 b L : Nat} {xs : Nat → Int32} {adm : Nat → Nat → Nat} {cs sl : Nat} (C : lcx p l s m c b L xs dC dI cA) (hcs : cs + 2 ≤ 601024) (hsl : sl + 14 ≤ 7293034) {a0 : Nat} (Kn : Nat → (Nat → Int64) → (Nat → UInt64) → ST → ST → Prop) {i : Int32} (hnext : ∀ (ad : Nat → Nat → Nat) (n : Nat) (o : Nat → Int64) (d : Nat → UInt64) (σ τ : ST), Kn n o d σ τ → ad 8 0 = a0 → ∀ (H : Heap) (locs : List Loc) (ls : Array Slot), va_P (dC, dI) vwCl (Wl cA b1 b2 ad n o d σ ++ Wm cA adm τ) H → va_D (fun q : Nat => s.heap.size ≤ q) (Wl cA b1 b2 ad n o d σ ++ Wm cA adm τ) → va_S (fun q : Nat => s.heap.size ≤ q) s.heap H locs → lv_has ls 10 [(0, .ref b), (1, .ref (ad 8 0)), (2, .ref (adm 9 0)), (3, .ref b1), (4, .ref b2), (5, .int i)] → W p l e room_1 s m #[Value.ref b] below meth c H locs (cs + 2) (sl + 14) Q (F0 m 1025 ls []))
    (ad : Nat → Nat → Nat) (n : Nat) (o : Nat → Int64) (d : Nat → UInt64) (σ τ : ST) (hwp : wp_case3 xs L i n o d σ τ Kn) (had : ad 8 0 = a0) (H : Heap) (locs : List Loc) (ls : Array Slot) (hP : va_P (dC, dI) vwCl (Wl cA b1 b2 ad n o d σ ++ Wm cA adm τ) H) (hD : va_D (fun q : Nat => s.heap.size ≤ q) (Wl cA b1 b2 ad n o d σ ++ Wm cA adm τ)) (hS : va_S (fun q : Nat => s.heap.size ≤ q) s.heap H locs) (hl : lv_has ls 10 [(0, .ref b), (1, .ref (ad 8 0)), (2, .ref (adm 9 0)), (3, .ref b1), (4, .ref b2), (5, .int i)]) : W p l e room_1 s m #[Value.ref b] below meth c H locs cs sl Q (F0 m 380 ls []) := by
  obtain ⟨hx, hb, hml, hown, hts, hX, hbl, hK, hT, hfl⟩ := C
  have hA : ∀ q : Nat, s.heap.size ≤ q → (fun q : Nat => s.heap.size ≤ q) q := fun _ h => h
  have hbA : ¬ (fun q : Nat => s.heap.size ≤ q) b := Nat.not_le.mpr hbl
  unfold wp_case3 at hwp
  refine lv_aload_n hx hb dL_law_380 rfl (lv_at hl 1 rfl) ?_
  refine lv_aload_n hx hb dL_law_381 rfl (lv_at hl 0 rfl) ?_
  refine lv_iload hx hb dL_law_382 (lv_at hl 5 rfl) ?_
  refine lv_iconst (v := 1) hx hb dL_law_384 (by decide) ?_
  refine lv_iadd hx hb dL_law_385 ?_
  obtain ⟨hi_1, hwp⟩ := hwp
  refine va_sld hx hb hX hbl hbA hS hi_1 dL_law_386 ?_
  refine lv_i2d hx hb dL_law_387 ?_
  refine lv_ldc2d (v := 4593671619917905920) hx hb hown (hts (.constantDouble RL 69 (4593671619917905920)) (by decide +kernel)) dL_law_388 ?_
  refine lv_dmul hx hb dL_law_391 hwp.1 ?_
  replace hwp := hwp.2
  refine lv_aload_n hx hb dL_law_392 rfl (lv_at hl 0 rfl) ?_
  refine lv_iload hx hb dL_law_393 (lv_at hl 5 rfl) ?_
  refine lv_iconst (v := 2) hx hb dL_law_395 (by decide) ?_
  refine lv_iadd hx hb dL_law_396 ?_
  obtain ⟨hi_2, hwp⟩ := hwp
  refine va_sld hx hb hX hbl hbA hS hi_2 dL_law_397 ?_
  have hPc := lP hP
  have hDc := lD hD
  have hF := fA hDc hS hA
  refine vx_calli (vx_runSX (As := [.ref (ad 8 0), .double (FP.dmul (FP.i2d (xs (i + 1).toNatClampNeg)) 4593671619917905920), .int (xs (i + 2).toNatClampNeg)]) (rest := []) ⟨hx, hb, hml, hown, hts⟩ (c_L_link l hfl dC dI cA b1 b2 ad n o d σ (FP.dmul (FP.i2d (xs (i + 1).toNatClampNeg)) 4593671619917905920) (xs (i + 2).toNatClampNeg) H.size _ hwp) (vx_cwSW 3 hts gL_law_L_link rfl rfl rfl (by decide +kernel) ⟨Nat.le_of_ble_eq_true rfl, Nat.le_of_ble_eq_true rfl⟩) ⟨fbX, fun U hU hW => ⟨rfl, ⟨by rw [hU], by rw [hU]; exact hPc, va_K.moved hW.alike hK, hDc.weaken (fun _ _ _ _ => trivial)⟩, hT.move hW hS hU hF⟩⟩ rfl rfl hl.1 rfl (lv_room (Nat.le_of_ble_eq_true rfl)) dL_law_398 ⟨by show _ ≤ 601024; omega, by show _ ≤ 7293034; omega⟩) hS (fun q _ h => hF q h) hF (fun q _ h => hF q h) (fun E ce q9 u t H1 locs ht hvm hpx hBX hz1 hk1 hS1 hce hcv hcl => hpx.elim) (fun r3 u t H1 locs ht hvm hwp hB hz1 hk1 hS => ?_)
  obtain ⟨o, d, σ⟩ := u
  obtain ⟨hP1, hK1, hD1⟩ := hB
  rw [ht] at hP1
  obtain ⟨hP, hD⟩ := jL hP hD hk1 hF hP1 hD1
  generalize H1 = H at hP hS ⊢
  clear hPc hDc hF hP1 hD1 hK1 hk1 hz1
  refine lv_istore (lv' := [(6, .int r3), (0, .ref b), (1, .ref (ad 8 0)), (2, .ref (adm 9 0)), (3, .ref b1), (4, .ref b2), (5, .int i)]) hx hb dL_law_401 hl (by decide) rfl (fun ls hl => ?_)
  refine lv_aload_n hx hb dL_law_403 rfl (lv_at hl 3 rfl) ?_
  refine lv_aload_n hx hb dL_law_404 rfl (lv_at hl 1 rfl) ?_
  refine lv_iload hx hb dL_law_405 (lv_at hl 6 rfl) ?_
  refine lv_iconst (v := 1) hx hb dL_law_407 (by decide) ?_
  refine lv_iadd hx hb dL_law_408 ?_
  obtain ⟨hi_4, hwp⟩ := hwp
  refine va_sld hx hb hX hbl hbA hS hi_4 dL_law_409 ?_
  refine lv_i2d hx hb dL_law_410 ?_
  refine lv_ldc2d (v := 4593671619917905920) hx hb hown (hts (.constantDouble RL 69 (4593671619917905920)) (by decide +kernel)) dL_law_411 ?_
  refine lv_dmul hx hb dL_law_414 hwp.1 ?_
  replace hwp := hwp.2
  refine lv_aload_n hx hb dL_law_415 rfl (lv_at hl 1 rfl) ?_
  refine lv_iload hx hb dL_law_416 (lv_at hl 6 rfl) ?_
  refine lv_iconst (v := 2) hx hb dL_law_418 (by decide) ?_
  refine lv_iadd hx hb dL_law_419 ?_
  obtain ⟨hi_5, hwp⟩ := hwp
  refine va_sld hx hb hX hbl hbA hS hi_5 dL_law_420 ?_
  have hPc := rP hP
  have hDc := rD hD
  have hF := fA hDc hS hA
  refine va_callv (va_runV (As := [.double (FP.dmul (FP.i2d (xs (i + 1).toNatClampNeg)) 4593671619917905920), .int (xs (i + 2).toNatClampNeg)]) (rest := []) ⟨hx, hb, hml, hown, hts⟩ (c_X9_link l dC dI cA adm τ (FP.dmul (FP.i2d (xs (i + 1).toNatClampNeg)) 4593671619917905920) (xs (i + 2).toNatClampNeg) H.size _ hwp) (cwV 2 hts gL_law_X9_link rfl rfl rfl (by decide +kernel) ⟨Nat.le_of_ble_eq_true rfl, Nat.le_of_ble_eq_true rfl⟩) ⟨fbC, va_recv hK hPc (ci := 9) (q0 := 0) rfl atModel, fun U hU hW => ⟨rfl, by rw [hU], by rw [hU]; exact hPc, va_K.moved hW.alike hK, hDc.weaken (fun _ _ _ _ => trivial)⟩⟩ rfl rfl hl.1 rfl (lv_room (Nat.le_of_ble_eq_true rfl)) dL_law_421 ⟨by show _ ≤ 601024; omega, by show _ ≤ 7293034; omega⟩) hS (fun q _ h => hF q h) hF (fun τ t H1 locs ht hvm hwp hB hz1 hk1 hS => ?_)
  obtain ⟨hP1, hK1, hD1⟩ := hB
  rw [ht] at hP1
  obtain ⟨hP, hD⟩ := jR hP hD hk1 hF hP1 hD1
  have hP : va_P (dC, dI) vwCl (Wl cA b1 b2 ad n o d σ ++ Wm cA adm τ) H1 := hP
  have hD : va_D (fun q : Nat => s.heap.size ≤ q) (Wl cA b1 b2 ad n o d σ ++ Wm cA adm τ) := hD
  generalize H1 = H at hP hS ⊢
  clear hPc hDc hF hP1 hD1 hK1 hk1 hz1
  refine lv_aload_n hx hb dL_law_424 rfl (lv_at hl 3 rfl) ?_
  have hPc := rP hP
  have hDc := rD hD
  have hF := fA hDc hS hA
  refine va_calli (va_runV (As := []) (rest := []) ⟨hx, hb, hml, hown, hts⟩ (c_X9_thrown l dC dI cA adm τ  H.size _ hwp) (cwV 0 hts gL_law_X9_thrown rfl rfl rfl (by decide +kernel) ⟨Nat.le_of_ble_eq_true rfl, Nat.le_of_ble_eq_true rfl⟩) ⟨fbC, va_recv hK hPc (ci := 9) (q0 := 0) rfl atModel, fun U hU hW => ⟨rfl, by rw [hU], by rw [hU]; exact hPc, va_K.moved hW.alike hK, hDc.weaken (fun _ _ _ _ => trivial)⟩⟩ rfl rfl hl.1 rfl (lv_room (Nat.le_of_ble_eq_true rfl)) dL_law_425 ⟨by show _ ≤ 601024; omega, by show _ ≤ 7293034; omega⟩) hS (fun q _ h => hF q h) hF (fun r6 τ t H1 locs ht hvm hwp hB hz1 hk1 hS => ?_)
  obtain ⟨hP1, hK1, hD1⟩ := hB
  rw [ht] at hP1
  obtain ⟨hP, hD⟩ := jR hP hD hk1 hF hP1 hD1
  have hP : va_P (dC, dI) vwCl (Wl cA b1 b2 ad n o d σ ++ Wm cA adm τ) H1 := hP
  have hD : va_D (fun q : Nat => s.heap.size ≤ q) (Wl cA b1 b2 ad n o d σ ++ Wm cA adm τ) := hD
  generalize H1 = H at hP hS ⊢
  clear hPc hDc hF hP1 hD1 hK1 hk1 hz1
  refine lv_iload hx hb dL_law_428 (lv_at hl 0 rfl) ?_
  refine lv_icmp_eq (tgt := 435) hx hb dL_law_430 (by decide) (fun c_430 => ?_) (fun c_430 => ?_)
  · replace hwp := hwp.1 c_430
    refine lv_goto (tgt := 1025) hx hb dL_law_435 (by decide) ?_
    refine W.widen (k := cs + 2) (n := sl + 14) (by omega) (by omega) ?_
    exact hnext ad n o d σ τ hwp had _ _ _ hP hD hS (lv_sub hl [1, 2, 3, 4, 5, 6] rfl)
  · replace hwp := hwp.2 c_430
    refine lv_iconst (v := 0) hx hb dL_law_433 (by decide) ?_
    exact hwp.elim
def wp_case4 (xs : Nat → Int32) (L : Nat) (i : Int32) (n : Nat) (o : Nat → Int64) (d : Nat → UInt64) (σ τ : ST) (Kn : Nat → (Nat → Int64) → (Nat → UInt64) → ST → ST → Prop) : Prop := vp_in (i + 1) L ∧
vf_n64 (FP.dmul (FP.i2d (xs (i + 1).toNatClampNeg)) 4593671619917905920) ∧
wp_L_coin n o d σ (FP.dmul (FP.i2d (xs (i + 1).toNatClampNeg)) 4593671619917905920) (fun r2 o d σ =>
vp_in (i + 1) L ∧
vf_n64 (FP.dmul (FP.i2d (xs (i + 1).toNatClampNeg)) 4593671619917905920) ∧
wp_X9_coin τ (FP.dmul (FP.i2d (xs (i + 1).toNatClampNeg)) 4593671619917905920) (fun r4 τ =>
wp_X9_thrown τ  (fun r5 τ =>
((r5 = r2 → (((¬ r2 = 0 → (Kn n o d σ τ)) ∧ (r2 = 0 → ((((lg_cmp (o (0 : Int32).toNatClampNeg) r4.toInt64) = 0 → (Kn n o d σ τ)) ∧ (¬ ((lg_cmp (o (0 : Int32).toNatClampNeg) r4.toInt64) = 0) → (False)))))))) ∧ (¬ (r5 = r2) → (False)))
)
)
)
set_option maxHeartbeats 16000000 in
set_option maxRecDepth 100000 in
theorem law_case4 {p : Program} {l : Launch} {e : Env} {s : State} {m : MethodId} {below : List Frame} {meth : Method} {c : Code} {Q : State → Prop} {dC : Nat → ClassId} {dI : Nat → Nat → Nat} {cA : Nat → ClassId} {b1 b2 b L : Nat} {xs : Nat → Int32} {adm : Nat → Nat → Nat} {cs sl : Nat} (C : lcx p l s m c b L xs dC dI cA) (hcs : cs + 2 ≤ 601024) (hsl : sl + 14 ≤ 7293034) {a0 : Nat} (Kn : Nat → (Nat → Int64) → (Nat → UInt64) → ST → ST → Prop) {i : Int32} (hnext : ∀ (ad : Nat → Nat → Nat) (n : Nat) (o : Nat → Int64) (d : Nat → UInt64) (σ τ : ST), Kn n o d σ τ → ad 8 0 = a0 → ∀ (H : Heap) (locs : List Loc) (ls : Array Slot), va_P (dC, dI) vwCl (Wl cA b1 b2 ad n o d σ ++ Wm cA adm τ) H → va_D (fun q : Nat => s.heap.size ≤ q) (Wl cA b1 b2 ad n o d σ ++ Wm cA adm τ) → va_S (fun q : Nat => s.heap.size ≤ q) s.heap H locs → lv_has ls 10 [(0, .ref b), (1, .ref (ad 8 0)), (2, .ref (adm 9 0)), (3, .ref b1), (4, .ref b2), (5, .int i)] → W p l e room_1 s m #[Value.ref b] below meth c H locs (cs + 2) (sl + 14) Q (F0 m 1025 ls []))
    (ad : Nat → Nat → Nat) (n : Nat) (o : Nat → Int64) (d : Nat → UInt64) (σ τ : ST) (hwp : wp_case4 xs L i n o d σ τ Kn) (had : ad 8 0 = a0) (H : Heap) (locs : List Loc) (ls : Array Slot) (hP : va_P (dC, dI) vwCl (Wl cA b1 b2 ad n o d σ ++ Wm cA adm τ) H) (hD : va_D (fun q : Nat => s.heap.size ≤ q) (Wl cA b1 b2 ad n o d σ ++ Wm cA adm τ)) (hS : va_S (fun q : Nat => s.heap.size ≤ q) s.heap H locs) (hl : lv_has ls 10 [(0, .ref b), (1, .ref (ad 8 0)), (2, .ref (adm 9 0)), (3, .ref b1), (4, .ref b2), (5, .int i)]) : W p l e room_1 s m #[Value.ref b] below meth c H locs cs sl Q (F0 m 438 ls []) := by
  obtain ⟨hx, hb, hml, hown, hts, hX, hbl, hK, hT, hfl⟩ := C
  have hA : ∀ q : Nat, s.heap.size ≤ q → (fun q : Nat => s.heap.size ≤ q) q := fun _ h => h
  have hbA : ¬ (fun q : Nat => s.heap.size ≤ q) b := Nat.not_le.mpr hbl
  unfold wp_case4 at hwp
  refine lv_aload_n hx hb dL_law_438 rfl (lv_at hl 1 rfl) ?_
  refine lv_aload_n hx hb dL_law_439 rfl (lv_at hl 0 rfl) ?_
  refine lv_iload hx hb dL_law_440 (lv_at hl 5 rfl) ?_
  refine lv_iconst (v := 1) hx hb dL_law_442 (by decide) ?_
  refine lv_iadd hx hb dL_law_443 ?_
  obtain ⟨hi_1, hwp⟩ := hwp
  refine va_sld hx hb hX hbl hbA hS hi_1 dL_law_444 ?_
  refine lv_i2d hx hb dL_law_445 ?_
  refine lv_ldc2d (v := 4593671619917905920) hx hb hown (hts (.constantDouble RL 69 (4593671619917905920)) (by decide +kernel)) dL_law_446 ?_
  refine lv_dmul hx hb dL_law_449 hwp.1 ?_
  replace hwp := hwp.2
  refine lv_aload_n hx hb dL_law_450 rfl (lv_at hl 3 rfl) ?_
  have hPc := lP hP
  have hDc := lD hD
  have hF := fA hDc hS hA
  refine vx_calli (vx_runSX (As := [.ref (ad 8 0), .double (FP.dmul (FP.i2d (xs (i + 1).toNatClampNeg)) 4593671619917905920), .ref b1]) (rest := []) ⟨hx, hb, hml, hown, hts⟩ (c_L_coin l hfl dC dI cA b1 b2 ad n o d σ (FP.dmul (FP.i2d (xs (i + 1).toNatClampNeg)) 4593671619917905920) H.size _ hwp) (vx_cwSW 3 hts gL_law_L_coin rfl rfl rfl (by decide +kernel) ⟨Nat.le_of_ble_eq_true rfl, Nat.le_of_ble_eq_true rfl⟩) ⟨fbX, fun U hU hW => ⟨rfl, ⟨by rw [hU], by rw [hU]; exact hPc, va_K.moved hW.alike hK, hDc.weaken (fun _ _ _ _ => trivial)⟩, hT.move hW hS hU hF⟩⟩ rfl rfl hl.1 rfl (lv_room (Nat.le_of_ble_eq_true rfl)) dL_law_451 ⟨by show _ ≤ 601024; omega, by show _ ≤ 7293034; omega⟩) hS (fun q _ h => hF q h) hF (fun q _ h => hF q h) (fun E ce q9 u t H1 locs ht hvm hpx hBX hz1 hk1 hS1 hce hcv hcl => hpx.elim) (fun r2 u t H1 locs ht hvm hwp hB hz1 hk1 hS => ?_)
  obtain ⟨o, d, σ⟩ := u
  obtain ⟨hP1, hK1, hD1⟩ := hB
  rw [ht] at hP1
  obtain ⟨hP, hD⟩ := jL hP hD hk1 hF hP1 hD1
  generalize H1 = H at hP hS ⊢
  clear hPc hDc hF hP1 hD1 hK1 hk1 hz1
  refine lv_istore (lv' := [(6, .int r2), (0, .ref b), (1, .ref (ad 8 0)), (2, .ref (adm 9 0)), (3, .ref b1), (4, .ref b2), (5, .int i)]) hx hb dL_law_454 hl (by decide) rfl (fun ls hl => ?_)
  refine lv_aload_n hx hb dL_law_456 rfl (lv_at hl 3 rfl) ?_
  refine lv_aload_n hx hb dL_law_457 rfl (lv_at hl 1 rfl) ?_
  refine lv_iload hx hb dL_law_458 (lv_at hl 6 rfl) ?_
  refine lv_iconst (v := 1) hx hb dL_law_460 (by decide) ?_
  refine lv_iadd hx hb dL_law_461 ?_
  obtain ⟨hi_3, hwp⟩ := hwp
  refine va_sld hx hb hX hbl hbA hS hi_3 dL_law_462 ?_
  refine lv_i2d hx hb dL_law_463 ?_
  refine lv_ldc2d (v := 4593671619917905920) hx hb hown (hts (.constantDouble RL 69 (4593671619917905920)) (by decide +kernel)) dL_law_464 ?_
  refine lv_dmul hx hb dL_law_467 hwp.1 ?_
  replace hwp := hwp.2
  have hPc := rP hP
  have hDc := rD hD
  have hF := fA hDc hS hA
  refine va_calli (va_runV (As := [.double (FP.dmul (FP.i2d (xs (i + 1).toNatClampNeg)) 4593671619917905920)]) (rest := []) ⟨hx, hb, hml, hown, hts⟩ (c_X9_coin l dC dI cA adm τ (FP.dmul (FP.i2d (xs (i + 1).toNatClampNeg)) 4593671619917905920) H.size _ hwp) (cwV 1 hts gL_law_X9_coin rfl rfl rfl (by decide +kernel) ⟨Nat.le_of_ble_eq_true rfl, Nat.le_of_ble_eq_true rfl⟩) ⟨fbC, va_recv hK hPc (ci := 9) (q0 := 0) rfl atModel, fun U hU hW => ⟨rfl, by rw [hU], by rw [hU]; exact hPc, va_K.moved hW.alike hK, hDc.weaken (fun _ _ _ _ => trivial)⟩⟩ rfl rfl hl.1 rfl (lv_room (Nat.le_of_ble_eq_true rfl)) dL_law_468 ⟨by show _ ≤ 601024; omega, by show _ ≤ 7293034; omega⟩) hS (fun q _ h => hF q h) hF (fun r4 τ t H1 locs ht hvm hwp hB hz1 hk1 hS => ?_)
  obtain ⟨hP1, hK1, hD1⟩ := hB
  rw [ht] at hP1
  obtain ⟨hP, hD⟩ := jR hP hD hk1 hF hP1 hD1
  have hP : va_P (dC, dI) vwCl (Wl cA b1 b2 ad n o d σ ++ Wm cA adm τ) H1 := hP
  have hD : va_D (fun q : Nat => s.heap.size ≤ q) (Wl cA b1 b2 ad n o d σ ++ Wm cA adm τ) := hD
  generalize H1 = H at hP hS ⊢
  clear hPc hDc hF hP1 hD1 hK1 hk1 hz1
  refine lv_istore (lv' := [(7, .int r4), (6, .int r2), (0, .ref b), (1, .ref (ad 8 0)), (2, .ref (adm 9 0)), (3, .ref b1), (4, .ref b2), (5, .int i)]) hx hb dL_law_471 hl (by decide) rfl (fun ls hl => ?_)
  refine lv_aload_n hx hb dL_law_473 rfl (lv_at hl 4 rfl) ?_
  have hPc := rP hP
  have hDc := rD hD
  have hF := fA hDc hS hA
  refine va_calli (va_runV (As := []) (rest := []) ⟨hx, hb, hml, hown, hts⟩ (c_X9_thrown l dC dI cA adm τ  H.size _ hwp) (cwV 0 hts gL_law_X9_thrown rfl rfl rfl (by decide +kernel) ⟨Nat.le_of_ble_eq_true rfl, Nat.le_of_ble_eq_true rfl⟩) ⟨fbC, va_recv hK hPc (ci := 9) (q0 := 0) rfl atModel, fun U hU hW => ⟨rfl, by rw [hU], by rw [hU]; exact hPc, va_K.moved hW.alike hK, hDc.weaken (fun _ _ _ _ => trivial)⟩⟩ rfl rfl hl.1 rfl (lv_room (Nat.le_of_ble_eq_true rfl)) dL_law_474 ⟨by show _ ≤ 601024; omega, by show _ ≤ 7293034; omega⟩) hS (fun q _ h => hF q h) hF (fun r5 τ t H1 locs ht hvm hwp hB hz1 hk1 hS => ?_)
  obtain ⟨hP1, hK1, hD1⟩ := hB
  rw [ht] at hP1
  obtain ⟨hP, hD⟩ := jR hP hD hk1 hF hP1 hD1
  have hP : va_P (dC, dI) vwCl (Wl cA b1 b2 ad n o d σ ++ Wm cA adm τ) H1 := hP
  have hD : va_D (fun q : Nat => s.heap.size ≤ q) (Wl cA b1 b2 ad n o d σ ++ Wm cA adm τ) := hD
  generalize H1 = H at hP hS ⊢
  clear hPc hDc hF hP1 hD1 hK1 hk1 hz1
  refine lv_iload hx hb dL_law_477 (lv_at hl 1 rfl) ?_
  refine lv_icmp_eq (tgt := 484) hx hb dL_law_479 (by decide) (fun c_479 => ?_) (fun c_479 => ?_)
  · replace hwp := hwp.1 c_479
    refine lv_iload hx hb dL_law_484 (lv_at hl 1 rfl) ?_
    refine lv_if_ne (tgt := 501) hx hb dL_law_486 (by decide) (fun c_486 => ?_) (fun c_486 => ?_)
    · replace hwp := hwp.1 c_486
      refine lv_goto (tgt := 1025) hx hb dL_law_501 (by decide) ?_
      refine W.widen (k := cs + 2) (n := sl + 14) (by omega) (by omega) ?_
      exact hnext ad n o d σ τ hwp had _ _ _ hP hD hS (lv_sub hl [2, 3, 4, 5, 6, 7] rfl)
    · replace hwp := hwp.2 c_486
      refine lv_aload_n hx hb dL_law_489 rfl (lv_at hl 5 rfl) ?_
      refine lv_iconst (v := 0) hx hb dL_law_490 (by decide) ?_
      refine va_lald (D := (dC, dI)) hx hb hK hP 0 5 (ha := rfl) (ht := rfl) (vp_in_nI (n := 0) (N := 1) (by decide) (by decide)) dL_law_491 ?_
      refine lv_iload hx hb dL_law_492 (lv_at hl 0 rfl) ?_
      refine lv_i2l (v := r4.toInt64) hx hb dL_law_494 rfl ?_
      refine W.lcmp hx hb dL_law_495 ?_
      refine lv_if_eq (tgt := 501) hx hb dL_law_496 (by decide) (fun c_496 => ?_) (fun c_496 => ?_)
      · replace hwp := hwp.1 c_496
        refine lv_goto (tgt := 1025) hx hb dL_law_501 (by decide) ?_
        refine W.widen (k := cs + 2) (n := sl + 14) (by omega) (by omega) ?_
        exact hnext ad n o d σ τ hwp had _ _ _ hP hD hS (lv_sub hl [2, 3, 4, 5, 6, 7] rfl)
      · replace hwp := hwp.2 c_496
        refine lv_iconst (v := 0) hx hb dL_law_499 (by decide) ?_
        exact hwp.elim
  · replace hwp := hwp.2 c_479
    refine lv_iconst (v := 0) hx hb dL_law_482 (by decide) ?_
    exact hwp.elim
def wp_case5 (xs : Nat → Int32) (L : Nat) (i : Int32) (n : Nat) (o : Nat → Int64) (d : Nat → UInt64) (σ τ : ST) (Kn : Nat → (Nat → Int64) → (Nat → UInt64) → ST → ST → Prop) : Prop := vp_in (i + 1) L ∧
vp_in (i + 2) L ∧
vp_in (i + 3) L ∧
(((xs (i + 3).toNatClampNeg) = 0 → (wp_L_come n o d σ (xs (i + 1).toNatClampNeg) (xs (i + 2).toNatClampNeg) 0 (fun r4 o d n σ =>
vp_in (i + 1) L ∧
vp_in (i + 2) L ∧
vp_in (i + 3) L ∧
(((xs (i + 3).toNatClampNeg) = 0 → (wp_X9_come τ (xs (i + 1).toNatClampNeg) (xs (i + 2).toNatClampNeg) 0 (fun r8 τ =>
wp_X9_thrown τ  (fun r9 τ =>
((r9 = r4 → (((¬ r4 = 0 → (Kn n o d σ τ)) ∧ (r4 = 0 → ((((lg_cmp (o (0 : Int32).toNatClampNeg) r8.toInt64) = 0 → (Kn n o d σ τ)) ∧ (¬ ((lg_cmp (o (0 : Int32).toNatClampNeg) r8.toInt64) = 0) → (False)))))))) ∧ (¬ (r9 = r4) → (False)))
)
))) ∧ (¬ ((xs (i + 3).toNatClampNeg) = 0) → (wp_X9_come τ (xs (i + 1).toNatClampNeg) (xs (i + 2).toNatClampNeg) 1 (fun r10 τ =>
wp_X9_thrown τ  (fun r11 τ =>
((r11 = r4 → (((¬ r4 = 0 → (Kn n o d σ τ)) ∧ (r4 = 0 → ((((lg_cmp (o (0 : Int32).toNatClampNeg) r10.toInt64) = 0 → (Kn n o d σ τ)) ∧ (¬ ((lg_cmp (o (0 : Int32).toNatClampNeg) r10.toInt64) = 0) → (False)))))))) ∧ (¬ (r11 = r4) → (False)))
)
))))
))) ∧ (¬ ((xs (i + 3).toNatClampNeg) = 0) → (wp_L_come n o d σ (xs (i + 1).toNatClampNeg) (xs (i + 2).toNatClampNeg) 1 (fun r12 o d n σ =>
vp_in (i + 1) L ∧
vp_in (i + 2) L ∧
vp_in (i + 3) L ∧
(((xs (i + 3).toNatClampNeg) = 0 → (wp_X9_come τ (xs (i + 1).toNatClampNeg) (xs (i + 2).toNatClampNeg) 0 (fun r16 τ =>
wp_X9_thrown τ  (fun r17 τ =>
((r17 = r12 → (((¬ r12 = 0 → (Kn n o d σ τ)) ∧ (r12 = 0 → ((((lg_cmp (o (0 : Int32).toNatClampNeg) r16.toInt64) = 0 → (Kn n o d σ τ)) ∧ (¬ ((lg_cmp (o (0 : Int32).toNatClampNeg) r16.toInt64) = 0) → (False)))))))) ∧ (¬ (r17 = r12) → (False)))
)
))) ∧ (¬ ((xs (i + 3).toNatClampNeg) = 0) → (wp_X9_come τ (xs (i + 1).toNatClampNeg) (xs (i + 2).toNatClampNeg) 1 (fun r18 τ =>
wp_X9_thrown τ  (fun r19 τ =>
((r19 = r12 → (((¬ r12 = 0 → (Kn n o d σ τ)) ∧ (r12 = 0 → ((((lg_cmp (o (0 : Int32).toNatClampNeg) r18.toInt64) = 0 → (Kn n o d σ τ)) ∧ (¬ ((lg_cmp (o (0 : Int32).toNatClampNeg) r18.toInt64) = 0) → (False)))))))) ∧ (¬ (r19 = r12) → (False)))
)
))))
))))
set_option maxHeartbeats 16000000 in
set_option maxRecDepth 100000 in
theorem law_case5 {p : Program} {l : Launch} {e : Env} {s : State} {m : MethodId} {below : List Frame} {meth : Method} {c : Code} {Q : State → Prop} {dC : Nat → ClassId} {dI : Nat → Nat → Nat} {cA : Nat → ClassId} {b1 b2 b L : Nat} {xs : Nat → Int32} {adm : Nat → Nat → Nat} {cs sl : Nat} (C : lcx p l s m c b L xs dC dI cA) (hcs : cs + 2 ≤ 601024) (hsl : sl + 14 ≤ 7293034) {a0 : Nat} (Kn : Nat → (Nat → Int64) → (Nat → UInt64) → ST → ST → Prop) {i : Int32} (hnext : ∀ (ad : Nat → Nat → Nat) (n : Nat) (o : Nat → Int64) (d : Nat → UInt64) (σ τ : ST), Kn n o d σ τ → ad 8 0 = a0 → ∀ (H : Heap) (locs : List Loc) (ls : Array Slot), va_P (dC, dI) vwCl (Wl cA b1 b2 ad n o d σ ++ Wm cA adm τ) H → va_D (fun q : Nat => s.heap.size ≤ q) (Wl cA b1 b2 ad n o d σ ++ Wm cA adm τ) → va_S (fun q : Nat => s.heap.size ≤ q) s.heap H locs → lv_has ls 10 [(0, .ref b), (1, .ref (ad 8 0)), (2, .ref (adm 9 0)), (3, .ref b1), (4, .ref b2), (5, .int i)] → W p l e room_1 s m #[Value.ref b] below meth c H locs (cs + 2) (sl + 14) Q (F0 m 1025 ls []))
    (ad : Nat → Nat → Nat) (n : Nat) (o : Nat → Int64) (d : Nat → UInt64) (σ τ : ST) (hwp : wp_case5 xs L i n o d σ τ Kn) (had : ad 8 0 = a0) (H : Heap) (locs : List Loc) (ls : Array Slot) (hP : va_P (dC, dI) vwCl (Wl cA b1 b2 ad n o d σ ++ Wm cA adm τ) H) (hD : va_D (fun q : Nat => s.heap.size ≤ q) (Wl cA b1 b2 ad n o d σ ++ Wm cA adm τ)) (hS : va_S (fun q : Nat => s.heap.size ≤ q) s.heap H locs) (hl : lv_has ls 10 [(0, .ref b), (1, .ref (ad 8 0)), (2, .ref (adm 9 0)), (3, .ref b1), (4, .ref b2), (5, .int i)]) : W p l e room_1 s m #[Value.ref b] below meth c H locs cs sl Q (F0 m 504 ls []) := by
  obtain ⟨hx, hb, hml, hown, hts, hX, hbl, hK, hT, hfl⟩ := C
  have hA : ∀ q : Nat, s.heap.size ≤ q → (fun q : Nat => s.heap.size ≤ q) q := fun _ h => h
  have hbA : ¬ (fun q : Nat => s.heap.size ≤ q) b := Nat.not_le.mpr hbl
  unfold wp_case5 at hwp
  refine lv_aload_n hx hb dL_law_504 rfl (lv_at hl 1 rfl) ?_
  refine lv_aload_n hx hb dL_law_505 rfl (lv_at hl 0 rfl) ?_
  refine lv_iload hx hb dL_law_506 (lv_at hl 5 rfl) ?_
  refine lv_iconst (v := 1) hx hb dL_law_508 (by decide) ?_
  refine lv_iadd hx hb dL_law_509 ?_
  obtain ⟨hi_1, hwp⟩ := hwp
  refine va_sld hx hb hX hbl hbA hS hi_1 dL_law_510 ?_
  refine lv_aload_n hx hb dL_law_511 rfl (lv_at hl 0 rfl) ?_
  refine lv_iload hx hb dL_law_512 (lv_at hl 5 rfl) ?_
  refine lv_iconst (v := 2) hx hb dL_law_514 (by decide) ?_
  refine lv_iadd hx hb dL_law_515 ?_
  obtain ⟨hi_2, hwp⟩ := hwp
  refine va_sld hx hb hX hbl hbA hS hi_2 dL_law_516 ?_
  refine lv_aload_n hx hb dL_law_517 rfl (lv_at hl 0 rfl) ?_
  refine lv_iload hx hb dL_law_518 (lv_at hl 5 rfl) ?_
  refine lv_iconst (v := 3) hx hb dL_law_520 (by decide) ?_
  refine lv_iadd hx hb dL_law_521 ?_
  obtain ⟨hi_3, hwp⟩ := hwp
  refine va_sld hx hb hX hbl hbA hS hi_3 dL_law_522 ?_
  refine lv_if_eq (tgt := 530) hx hb dL_law_523 (by decide) (fun c_523 => ?_) (fun c_523 => ?_)
  · replace hwp := hwp.1 c_523
    refine lv_iconst (v := 0) hx hb dL_law_530 (by decide) ?_
    refine lv_aload_n hx hb dL_law_531 rfl (lv_at hl 3 rfl) ?_
    have hPc := lP hP
    have hDc := lD hD
    have hF := fA hDc hS hA
    refine vx_calli (vx_runSX (As := [.ref (ad 8 0), .int (xs (i + 1).toNatClampNeg), .int (xs (i + 2).toNatClampNeg), .int 0, .ref b1]) (rest := []) ⟨hx, hb, hml, hown, hts⟩ (c_L_come l hfl dC dI cA b1 b2 ad n o d σ (xs (i + 1).toNatClampNeg) (xs (i + 2).toNatClampNeg) 0 H.size _ hwp) (vx_cwSW 5 hts gL_law_L_come rfl rfl rfl (by decide +kernel) ⟨Nat.le_of_ble_eq_true rfl, Nat.le_of_ble_eq_true rfl⟩) ⟨fbX, fun U hU hW => ⟨rfl, ⟨by rw [hU], by rw [hU]; exact hPc, va_K.moved hW.alike hK, hDc.weaken (fun _ _ _ _ => trivial)⟩, hT.move hW hS hU hF⟩⟩ rfl rfl hl.1 rfl (lv_room (Nat.le_of_ble_eq_true rfl)) dL_law_532 ⟨by show _ ≤ 601024; omega, by show _ ≤ 7293034; omega⟩) hS (fun q _ h => hF q h) hF (fun q _ h => hF q h) (fun E ce q9 u t H1 locs ht hvm hpx hBX hz1 hk1 hS1 hce hcv hcl => hpx.elim) (fun r4 u t H1 locs ht hvm hwp hB hz1 hk1 hS => ?_)
    obtain ⟨o, d, σ, ad1, n⟩ := u
    obtain ⟨⟨hP1, hK1, hD1⟩, had1⟩ := hB
    rw [ht] at hP1
    obtain ⟨hP, hD⟩ := jL hP hD hk1 hF hP1 hD1
    generalize H1 = H at hP hS ⊢
    clear hPc hDc hF hP1 hD1 hK1 hk1 hz1
    rw [← had1] at hl had
    generalize ad1 = ad at hP hD hl had
    refine lv_istore (lv' := [(6, .int r4), (0, .ref b), (1, .ref (ad 8 0)), (2, .ref (adm 9 0)), (3, .ref b1), (4, .ref b2), (5, .int i)]) hx hb dL_law_535 hl (by decide) rfl (fun ls hl => ?_)
    refine lv_aload_n hx hb dL_law_537 rfl (lv_at hl 3 rfl) ?_
    refine lv_aload_n hx hb dL_law_538 rfl (lv_at hl 1 rfl) ?_
    refine lv_iload hx hb dL_law_539 (lv_at hl 6 rfl) ?_
    refine lv_iconst (v := 1) hx hb dL_law_541 (by decide) ?_
    refine lv_iadd hx hb dL_law_542 ?_
    obtain ⟨hi_5, hwp⟩ := hwp
    refine va_sld hx hb hX hbl hbA hS hi_5 dL_law_543 ?_
    refine lv_aload_n hx hb dL_law_544 rfl (lv_at hl 1 rfl) ?_
    refine lv_iload hx hb dL_law_545 (lv_at hl 6 rfl) ?_
    refine lv_iconst (v := 2) hx hb dL_law_547 (by decide) ?_
    refine lv_iadd hx hb dL_law_548 ?_
    obtain ⟨hi_6, hwp⟩ := hwp
    refine va_sld hx hb hX hbl hbA hS hi_6 dL_law_549 ?_
    refine lv_aload_n hx hb dL_law_550 rfl (lv_at hl 1 rfl) ?_
    refine lv_iload hx hb dL_law_551 (lv_at hl 6 rfl) ?_
    refine lv_iconst (v := 3) hx hb dL_law_553 (by decide) ?_
    refine lv_iadd hx hb dL_law_554 ?_
    obtain ⟨hi_7, hwp⟩ := hwp
    refine va_sld hx hb hX hbl hbA hS hi_7 dL_law_555 ?_
    refine lv_if_eq (tgt := 563) hx hb dL_law_556 (by decide) (fun c_556 => ?_) (fun c_556 => ?_)
    · replace hwp := hwp.1 c_556
      refine lv_iconst (v := 0) hx hb dL_law_563 (by decide) ?_
      have hPc := rP hP
      have hDc := rD hD
      have hF := fA hDc hS hA
      refine va_calli (va_runV (As := [.int (xs (i + 1).toNatClampNeg), .int (xs (i + 2).toNatClampNeg), .int 0]) (rest := []) ⟨hx, hb, hml, hown, hts⟩ (c_X9_come l dC dI cA adm τ (xs (i + 1).toNatClampNeg) (xs (i + 2).toNatClampNeg) 0 H.size _ hwp) (cwV 3 hts gL_law_X9_come rfl rfl rfl (by decide +kernel) ⟨Nat.le_of_ble_eq_true rfl, Nat.le_of_ble_eq_true rfl⟩) ⟨fbC, va_recv hK hPc (ci := 9) (q0 := 0) rfl atModel, fun U hU hW => ⟨rfl, by rw [hU], by rw [hU]; exact hPc, va_K.moved hW.alike hK, hDc.weaken (fun _ _ _ _ => trivial)⟩⟩ rfl rfl hl.1 rfl (lv_room (Nat.le_of_ble_eq_true rfl)) dL_law_564 ⟨by show _ ≤ 601024; omega, by show _ ≤ 7293034; omega⟩) hS (fun q _ h => hF q h) hF (fun r8 τ t H1 locs ht hvm hwp hB hz1 hk1 hS => ?_)
      obtain ⟨hP1, hK1, hD1⟩ := hB
      rw [ht] at hP1
      obtain ⟨hP, hD⟩ := jR hP hD hk1 hF hP1 hD1
      have hP : va_P (dC, dI) vwCl (Wl cA b1 b2 ad n o d σ ++ Wm cA adm τ) H1 := hP
      have hD : va_D (fun q : Nat => s.heap.size ≤ q) (Wl cA b1 b2 ad n o d σ ++ Wm cA adm τ) := hD
      generalize H1 = H at hP hS ⊢
      clear hPc hDc hF hP1 hD1 hK1 hk1 hz1
      refine lv_istore (lv' := [(7, .int r8), (6, .int r4), (0, .ref b), (1, .ref (ad 8 0)), (2, .ref (adm 9 0)), (3, .ref b1), (4, .ref b2), (5, .int i)]) hx hb dL_law_567 hl (by decide) rfl (fun ls hl => ?_)
      refine lv_aload_n hx hb dL_law_569 rfl (lv_at hl 4 rfl) ?_
      have hPc := rP hP
      have hDc := rD hD
      have hF := fA hDc hS hA
      refine va_calli (va_runV (As := []) (rest := []) ⟨hx, hb, hml, hown, hts⟩ (c_X9_thrown l dC dI cA adm τ  H.size _ hwp) (cwV 0 hts gL_law_X9_thrown rfl rfl rfl (by decide +kernel) ⟨Nat.le_of_ble_eq_true rfl, Nat.le_of_ble_eq_true rfl⟩) ⟨fbC, va_recv hK hPc (ci := 9) (q0 := 0) rfl atModel, fun U hU hW => ⟨rfl, by rw [hU], by rw [hU]; exact hPc, va_K.moved hW.alike hK, hDc.weaken (fun _ _ _ _ => trivial)⟩⟩ rfl rfl hl.1 rfl (lv_room (Nat.le_of_ble_eq_true rfl)) dL_law_570 ⟨by show _ ≤ 601024; omega, by show _ ≤ 7293034; omega⟩) hS (fun q _ h => hF q h) hF (fun r9 τ t H1 locs ht hvm hwp hB hz1 hk1 hS => ?_)
      obtain ⟨hP1, hK1, hD1⟩ := hB
      rw [ht] at hP1
      obtain ⟨hP, hD⟩ := jR hP hD hk1 hF hP1 hD1
      have hP : va_P (dC, dI) vwCl (Wl cA b1 b2 ad n o d σ ++ Wm cA adm τ) H1 := hP
      have hD : va_D (fun q : Nat => s.heap.size ≤ q) (Wl cA b1 b2 ad n o d σ ++ Wm cA adm τ) := hD
      generalize H1 = H at hP hS ⊢
      clear hPc hDc hF hP1 hD1 hK1 hk1 hz1
      refine lv_iload hx hb dL_law_573 (lv_at hl 1 rfl) ?_
      refine lv_icmp_eq (tgt := 580) hx hb dL_law_575 (by decide) (fun c_575 => ?_) (fun c_575 => ?_)
      · replace hwp := hwp.1 c_575
        refine lv_iload hx hb dL_law_580 (lv_at hl 1 rfl) ?_
        refine lv_if_ne (tgt := 597) hx hb dL_law_582 (by decide) (fun c_582 => ?_) (fun c_582 => ?_)
        · replace hwp := hwp.1 c_582
          refine lv_goto (tgt := 1025) hx hb dL_law_597 (by decide) ?_
          refine W.widen (k := cs + 2) (n := sl + 14) (by omega) (by omega) ?_
          exact hnext ad n o d σ τ hwp had _ _ _ hP hD hS (lv_sub hl [2, 3, 4, 5, 6, 7] rfl)
        · replace hwp := hwp.2 c_582
          refine lv_aload_n hx hb dL_law_585 rfl (lv_at hl 5 rfl) ?_
          refine lv_iconst (v := 0) hx hb dL_law_586 (by decide) ?_
          refine va_lald (D := (dC, dI)) hx hb hK hP 0 5 (ha := rfl) (ht := rfl) (vp_in_nI (n := 0) (N := 1) (by decide) (by decide)) dL_law_587 ?_
          refine lv_iload hx hb dL_law_588 (lv_at hl 0 rfl) ?_
          refine lv_i2l (v := r8.toInt64) hx hb dL_law_590 rfl ?_
          refine W.lcmp hx hb dL_law_591 ?_
          refine lv_if_eq (tgt := 597) hx hb dL_law_592 (by decide) (fun c_592 => ?_) (fun c_592 => ?_)
          · replace hwp := hwp.1 c_592
            refine lv_goto (tgt := 1025) hx hb dL_law_597 (by decide) ?_
            refine W.widen (k := cs + 2) (n := sl + 14) (by omega) (by omega) ?_
            exact hnext ad n o d σ τ hwp had _ _ _ hP hD hS (lv_sub hl [2, 3, 4, 5, 6, 7] rfl)
          · replace hwp := hwp.2 c_592
            refine lv_iconst (v := 0) hx hb dL_law_595 (by decide) ?_
            exact hwp.elim
      · replace hwp := hwp.2 c_575
        refine lv_iconst (v := 0) hx hb dL_law_578 (by decide) ?_
        exact hwp.elim
    · replace hwp := hwp.2 c_556
      refine lv_iconst (v := 1) hx hb dL_law_559 (by decide) ?_
      refine lv_goto (tgt := 564) hx hb dL_law_560 (by decide) ?_
      have hPc := rP hP
      have hDc := rD hD
      have hF := fA hDc hS hA
      refine va_calli (va_runV (As := [.int (xs (i + 1).toNatClampNeg), .int (xs (i + 2).toNatClampNeg), .int 1]) (rest := []) ⟨hx, hb, hml, hown, hts⟩ (c_X9_come l dC dI cA adm τ (xs (i + 1).toNatClampNeg) (xs (i + 2).toNatClampNeg) 1 H.size _ hwp) (cwV 3 hts gL_law_X9_come rfl rfl rfl (by decide +kernel) ⟨Nat.le_of_ble_eq_true rfl, Nat.le_of_ble_eq_true rfl⟩) ⟨fbC, va_recv hK hPc (ci := 9) (q0 := 0) rfl atModel, fun U hU hW => ⟨rfl, by rw [hU], by rw [hU]; exact hPc, va_K.moved hW.alike hK, hDc.weaken (fun _ _ _ _ => trivial)⟩⟩ rfl rfl hl.1 rfl (lv_room (Nat.le_of_ble_eq_true rfl)) dL_law_564 ⟨by show _ ≤ 601024; omega, by show _ ≤ 7293034; omega⟩) hS (fun q _ h => hF q h) hF (fun r10 τ t H1 locs ht hvm hwp hB hz1 hk1 hS => ?_)
      obtain ⟨hP1, hK1, hD1⟩ := hB
      rw [ht] at hP1
      obtain ⟨hP, hD⟩ := jR hP hD hk1 hF hP1 hD1
      have hP : va_P (dC, dI) vwCl (Wl cA b1 b2 ad n o d σ ++ Wm cA adm τ) H1 := hP
      have hD : va_D (fun q : Nat => s.heap.size ≤ q) (Wl cA b1 b2 ad n o d σ ++ Wm cA adm τ) := hD
      generalize H1 = H at hP hS ⊢
      clear hPc hDc hF hP1 hD1 hK1 hk1 hz1
      refine lv_istore (lv' := [(7, .int r10), (6, .int r4), (0, .ref b), (1, .ref (ad 8 0)), (2, .ref (adm 9 0)), (3, .ref b1), (4, .ref b2), (5, .int i)]) hx hb dL_law_567 hl (by decide) rfl (fun ls hl => ?_)
      refine lv_aload_n hx hb dL_law_569 rfl (lv_at hl 4 rfl) ?_
      have hPc := rP hP
      have hDc := rD hD
      have hF := fA hDc hS hA
      refine va_calli (va_runV (As := []) (rest := []) ⟨hx, hb, hml, hown, hts⟩ (c_X9_thrown l dC dI cA adm τ  H.size _ hwp) (cwV 0 hts gL_law_X9_thrown rfl rfl rfl (by decide +kernel) ⟨Nat.le_of_ble_eq_true rfl, Nat.le_of_ble_eq_true rfl⟩) ⟨fbC, va_recv hK hPc (ci := 9) (q0 := 0) rfl atModel, fun U hU hW => ⟨rfl, by rw [hU], by rw [hU]; exact hPc, va_K.moved hW.alike hK, hDc.weaken (fun _ _ _ _ => trivial)⟩⟩ rfl rfl hl.1 rfl (lv_room (Nat.le_of_ble_eq_true rfl)) dL_law_570 ⟨by show _ ≤ 601024; omega, by show _ ≤ 7293034; omega⟩) hS (fun q _ h => hF q h) hF (fun r11 τ t H1 locs ht hvm hwp hB hz1 hk1 hS => ?_)
      obtain ⟨hP1, hK1, hD1⟩ := hB
      rw [ht] at hP1
      obtain ⟨hP, hD⟩ := jR hP hD hk1 hF hP1 hD1
      have hP : va_P (dC, dI) vwCl (Wl cA b1 b2 ad n o d σ ++ Wm cA adm τ) H1 := hP
      have hD : va_D (fun q : Nat => s.heap.size ≤ q) (Wl cA b1 b2 ad n o d σ ++ Wm cA adm τ) := hD
      generalize H1 = H at hP hS ⊢
      clear hPc hDc hF hP1 hD1 hK1 hk1 hz1
      refine lv_iload hx hb dL_law_573 (lv_at hl 1 rfl) ?_
      refine lv_icmp_eq (tgt := 580) hx hb dL_law_575 (by decide) (fun c_575 => ?_) (fun c_575 => ?_)
      · replace hwp := hwp.1 c_575
        refine lv_iload hx hb dL_law_580 (lv_at hl 1 rfl) ?_
        refine lv_if_ne (tgt := 597) hx hb dL_law_582 (by decide) (fun c_582 => ?_) (fun c_582 => ?_)
        · replace hwp := hwp.1 c_582
          refine lv_goto (tgt := 1025) hx hb dL_law_597 (by decide) ?_
          refine W.widen (k := cs + 2) (n := sl + 14) (by omega) (by omega) ?_
          exact hnext ad n o d σ τ hwp had _ _ _ hP hD hS (lv_sub hl [2, 3, 4, 5, 6, 7] rfl)
        · replace hwp := hwp.2 c_582
          refine lv_aload_n hx hb dL_law_585 rfl (lv_at hl 5 rfl) ?_
          refine lv_iconst (v := 0) hx hb dL_law_586 (by decide) ?_
          refine va_lald (D := (dC, dI)) hx hb hK hP 0 5 (ha := rfl) (ht := rfl) (vp_in_nI (n := 0) (N := 1) (by decide) (by decide)) dL_law_587 ?_
          refine lv_iload hx hb dL_law_588 (lv_at hl 0 rfl) ?_
          refine lv_i2l (v := r10.toInt64) hx hb dL_law_590 rfl ?_
          refine W.lcmp hx hb dL_law_591 ?_
          refine lv_if_eq (tgt := 597) hx hb dL_law_592 (by decide) (fun c_592 => ?_) (fun c_592 => ?_)
          · replace hwp := hwp.1 c_592
            refine lv_goto (tgt := 1025) hx hb dL_law_597 (by decide) ?_
            refine W.widen (k := cs + 2) (n := sl + 14) (by omega) (by omega) ?_
            exact hnext ad n o d σ τ hwp had _ _ _ hP hD hS (lv_sub hl [2, 3, 4, 5, 6, 7] rfl)
          · replace hwp := hwp.2 c_592
            refine lv_iconst (v := 0) hx hb dL_law_595 (by decide) ?_
            exact hwp.elim
      · replace hwp := hwp.2 c_575
        refine lv_iconst (v := 0) hx hb dL_law_578 (by decide) ?_
        exact hwp.elim
  · replace hwp := hwp.2 c_523
    refine lv_iconst (v := 1) hx hb dL_law_526 (by decide) ?_
    refine lv_goto (tgt := 531) hx hb dL_law_527 (by decide) ?_
    refine lv_aload_n hx hb dL_law_531 rfl (lv_at hl 3 rfl) ?_
    have hPc := lP hP
    have hDc := lD hD
    have hF := fA hDc hS hA
    refine vx_calli (vx_runSX (As := [.ref (ad 8 0), .int (xs (i + 1).toNatClampNeg), .int (xs (i + 2).toNatClampNeg), .int 1, .ref b1]) (rest := []) ⟨hx, hb, hml, hown, hts⟩ (c_L_come l hfl dC dI cA b1 b2 ad n o d σ (xs (i + 1).toNatClampNeg) (xs (i + 2).toNatClampNeg) 1 H.size _ hwp) (vx_cwSW 5 hts gL_law_L_come rfl rfl rfl (by decide +kernel) ⟨Nat.le_of_ble_eq_true rfl, Nat.le_of_ble_eq_true rfl⟩) ⟨fbX, fun U hU hW => ⟨rfl, ⟨by rw [hU], by rw [hU]; exact hPc, va_K.moved hW.alike hK, hDc.weaken (fun _ _ _ _ => trivial)⟩, hT.move hW hS hU hF⟩⟩ rfl rfl hl.1 rfl (lv_room (Nat.le_of_ble_eq_true rfl)) dL_law_532 ⟨by show _ ≤ 601024; omega, by show _ ≤ 7293034; omega⟩) hS (fun q _ h => hF q h) hF (fun q _ h => hF q h) (fun E ce q9 u t H1 locs ht hvm hpx hBX hz1 hk1 hS1 hce hcv hcl => hpx.elim) (fun r12 u t H1 locs ht hvm hwp hB hz1 hk1 hS => ?_)
    obtain ⟨o, d, σ, ad1, n⟩ := u
    obtain ⟨⟨hP1, hK1, hD1⟩, had1⟩ := hB
    rw [ht] at hP1
    obtain ⟨hP, hD⟩ := jL hP hD hk1 hF hP1 hD1
    generalize H1 = H at hP hS ⊢
    clear hPc hDc hF hP1 hD1 hK1 hk1 hz1
    rw [← had1] at hl had
    generalize ad1 = ad at hP hD hl had
    refine lv_istore (lv' := [(6, .int r12), (0, .ref b), (1, .ref (ad 8 0)), (2, .ref (adm 9 0)), (3, .ref b1), (4, .ref b2), (5, .int i)]) hx hb dL_law_535 hl (by decide) rfl (fun ls hl => ?_)
    refine lv_aload_n hx hb dL_law_537 rfl (lv_at hl 3 rfl) ?_
    refine lv_aload_n hx hb dL_law_538 rfl (lv_at hl 1 rfl) ?_
    refine lv_iload hx hb dL_law_539 (lv_at hl 6 rfl) ?_
    refine lv_iconst (v := 1) hx hb dL_law_541 (by decide) ?_
    refine lv_iadd hx hb dL_law_542 ?_
    obtain ⟨hi_13, hwp⟩ := hwp
    refine va_sld hx hb hX hbl hbA hS hi_13 dL_law_543 ?_
    refine lv_aload_n hx hb dL_law_544 rfl (lv_at hl 1 rfl) ?_
    refine lv_iload hx hb dL_law_545 (lv_at hl 6 rfl) ?_
    refine lv_iconst (v := 2) hx hb dL_law_547 (by decide) ?_
    refine lv_iadd hx hb dL_law_548 ?_
    obtain ⟨hi_14, hwp⟩ := hwp
    refine va_sld hx hb hX hbl hbA hS hi_14 dL_law_549 ?_
    refine lv_aload_n hx hb dL_law_550 rfl (lv_at hl 1 rfl) ?_
    refine lv_iload hx hb dL_law_551 (lv_at hl 6 rfl) ?_
    refine lv_iconst (v := 3) hx hb dL_law_553 (by decide) ?_
    refine lv_iadd hx hb dL_law_554 ?_
    obtain ⟨hi_15, hwp⟩ := hwp
    refine va_sld hx hb hX hbl hbA hS hi_15 dL_law_555 ?_
    refine lv_if_eq (tgt := 563) hx hb dL_law_556 (by decide) (fun c_556 => ?_) (fun c_556 => ?_)
    · replace hwp := hwp.1 c_556
      refine lv_iconst (v := 0) hx hb dL_law_563 (by decide) ?_
      have hPc := rP hP
      have hDc := rD hD
      have hF := fA hDc hS hA
      refine va_calli (va_runV (As := [.int (xs (i + 1).toNatClampNeg), .int (xs (i + 2).toNatClampNeg), .int 0]) (rest := []) ⟨hx, hb, hml, hown, hts⟩ (c_X9_come l dC dI cA adm τ (xs (i + 1).toNatClampNeg) (xs (i + 2).toNatClampNeg) 0 H.size _ hwp) (cwV 3 hts gL_law_X9_come rfl rfl rfl (by decide +kernel) ⟨Nat.le_of_ble_eq_true rfl, Nat.le_of_ble_eq_true rfl⟩) ⟨fbC, va_recv hK hPc (ci := 9) (q0 := 0) rfl atModel, fun U hU hW => ⟨rfl, by rw [hU], by rw [hU]; exact hPc, va_K.moved hW.alike hK, hDc.weaken (fun _ _ _ _ => trivial)⟩⟩ rfl rfl hl.1 rfl (lv_room (Nat.le_of_ble_eq_true rfl)) dL_law_564 ⟨by show _ ≤ 601024; omega, by show _ ≤ 7293034; omega⟩) hS (fun q _ h => hF q h) hF (fun r16 τ t H1 locs ht hvm hwp hB hz1 hk1 hS => ?_)
      obtain ⟨hP1, hK1, hD1⟩ := hB
      rw [ht] at hP1
      obtain ⟨hP, hD⟩ := jR hP hD hk1 hF hP1 hD1
      have hP : va_P (dC, dI) vwCl (Wl cA b1 b2 ad n o d σ ++ Wm cA adm τ) H1 := hP
      have hD : va_D (fun q : Nat => s.heap.size ≤ q) (Wl cA b1 b2 ad n o d σ ++ Wm cA adm τ) := hD
      generalize H1 = H at hP hS ⊢
      clear hPc hDc hF hP1 hD1 hK1 hk1 hz1
      refine lv_istore (lv' := [(7, .int r16), (6, .int r12), (0, .ref b), (1, .ref (ad 8 0)), (2, .ref (adm 9 0)), (3, .ref b1), (4, .ref b2), (5, .int i)]) hx hb dL_law_567 hl (by decide) rfl (fun ls hl => ?_)
      refine lv_aload_n hx hb dL_law_569 rfl (lv_at hl 4 rfl) ?_
      have hPc := rP hP
      have hDc := rD hD
      have hF := fA hDc hS hA
      refine va_calli (va_runV (As := []) (rest := []) ⟨hx, hb, hml, hown, hts⟩ (c_X9_thrown l dC dI cA adm τ  H.size _ hwp) (cwV 0 hts gL_law_X9_thrown rfl rfl rfl (by decide +kernel) ⟨Nat.le_of_ble_eq_true rfl, Nat.le_of_ble_eq_true rfl⟩) ⟨fbC, va_recv hK hPc (ci := 9) (q0 := 0) rfl atModel, fun U hU hW => ⟨rfl, by rw [hU], by rw [hU]; exact hPc, va_K.moved hW.alike hK, hDc.weaken (fun _ _ _ _ => trivial)⟩⟩ rfl rfl hl.1 rfl (lv_room (Nat.le_of_ble_eq_true rfl)) dL_law_570 ⟨by show _ ≤ 601024; omega, by show _ ≤ 7293034; omega⟩) hS (fun q _ h => hF q h) hF (fun r17 τ t H1 locs ht hvm hwp hB hz1 hk1 hS => ?_)
      obtain ⟨hP1, hK1, hD1⟩ := hB
      rw [ht] at hP1
      obtain ⟨hP, hD⟩ := jR hP hD hk1 hF hP1 hD1
      have hP : va_P (dC, dI) vwCl (Wl cA b1 b2 ad n o d σ ++ Wm cA adm τ) H1 := hP
      have hD : va_D (fun q : Nat => s.heap.size ≤ q) (Wl cA b1 b2 ad n o d σ ++ Wm cA adm τ) := hD
      generalize H1 = H at hP hS ⊢
      clear hPc hDc hF hP1 hD1 hK1 hk1 hz1
      refine lv_iload hx hb dL_law_573 (lv_at hl 1 rfl) ?_
      refine lv_icmp_eq (tgt := 580) hx hb dL_law_575 (by decide) (fun c_575 => ?_) (fun c_575 => ?_)
      · replace hwp := hwp.1 c_575
        refine lv_iload hx hb dL_law_580 (lv_at hl 1 rfl) ?_
        refine lv_if_ne (tgt := 597) hx hb dL_law_582 (by decide) (fun c_582 => ?_) (fun c_582 => ?_)
        · replace hwp := hwp.1 c_582
          refine lv_goto (tgt := 1025) hx hb dL_law_597 (by decide) ?_
          refine W.widen (k := cs + 2) (n := sl + 14) (by omega) (by omega) ?_
          exact hnext ad n o d σ τ hwp had _ _ _ hP hD hS (lv_sub hl [2, 3, 4, 5, 6, 7] rfl)
        · replace hwp := hwp.2 c_582
          refine lv_aload_n hx hb dL_law_585 rfl (lv_at hl 5 rfl) ?_
          refine lv_iconst (v := 0) hx hb dL_law_586 (by decide) ?_
          refine va_lald (D := (dC, dI)) hx hb hK hP 0 5 (ha := rfl) (ht := rfl) (vp_in_nI (n := 0) (N := 1) (by decide) (by decide)) dL_law_587 ?_
          refine lv_iload hx hb dL_law_588 (lv_at hl 0 rfl) ?_
          refine lv_i2l (v := r16.toInt64) hx hb dL_law_590 rfl ?_
          refine W.lcmp hx hb dL_law_591 ?_
          refine lv_if_eq (tgt := 597) hx hb dL_law_592 (by decide) (fun c_592 => ?_) (fun c_592 => ?_)
          · replace hwp := hwp.1 c_592
            refine lv_goto (tgt := 1025) hx hb dL_law_597 (by decide) ?_
            refine W.widen (k := cs + 2) (n := sl + 14) (by omega) (by omega) ?_
            exact hnext ad n o d σ τ hwp had _ _ _ hP hD hS (lv_sub hl [2, 3, 4, 5, 6, 7] rfl)
          · replace hwp := hwp.2 c_592
            refine lv_iconst (v := 0) hx hb dL_law_595 (by decide) ?_
            exact hwp.elim
      · replace hwp := hwp.2 c_575
        refine lv_iconst (v := 0) hx hb dL_law_578 (by decide) ?_
        exact hwp.elim
    · replace hwp := hwp.2 c_556
      refine lv_iconst (v := 1) hx hb dL_law_559 (by decide) ?_
      refine lv_goto (tgt := 564) hx hb dL_law_560 (by decide) ?_
      have hPc := rP hP
      have hDc := rD hD
      have hF := fA hDc hS hA
      refine va_calli (va_runV (As := [.int (xs (i + 1).toNatClampNeg), .int (xs (i + 2).toNatClampNeg), .int 1]) (rest := []) ⟨hx, hb, hml, hown, hts⟩ (c_X9_come l dC dI cA adm τ (xs (i + 1).toNatClampNeg) (xs (i + 2).toNatClampNeg) 1 H.size _ hwp) (cwV 3 hts gL_law_X9_come rfl rfl rfl (by decide +kernel) ⟨Nat.le_of_ble_eq_true rfl, Nat.le_of_ble_eq_true rfl⟩) ⟨fbC, va_recv hK hPc (ci := 9) (q0 := 0) rfl atModel, fun U hU hW => ⟨rfl, by rw [hU], by rw [hU]; exact hPc, va_K.moved hW.alike hK, hDc.weaken (fun _ _ _ _ => trivial)⟩⟩ rfl rfl hl.1 rfl (lv_room (Nat.le_of_ble_eq_true rfl)) dL_law_564 ⟨by show _ ≤ 601024; omega, by show _ ≤ 7293034; omega⟩) hS (fun q _ h => hF q h) hF (fun r18 τ t H1 locs ht hvm hwp hB hz1 hk1 hS => ?_)
      obtain ⟨hP1, hK1, hD1⟩ := hB
      rw [ht] at hP1
      obtain ⟨hP, hD⟩ := jR hP hD hk1 hF hP1 hD1
      have hP : va_P (dC, dI) vwCl (Wl cA b1 b2 ad n o d σ ++ Wm cA adm τ) H1 := hP
      have hD : va_D (fun q : Nat => s.heap.size ≤ q) (Wl cA b1 b2 ad n o d σ ++ Wm cA adm τ) := hD
      generalize H1 = H at hP hS ⊢
      clear hPc hDc hF hP1 hD1 hK1 hk1 hz1
      refine lv_istore (lv' := [(7, .int r18), (6, .int r12), (0, .ref b), (1, .ref (ad 8 0)), (2, .ref (adm 9 0)), (3, .ref b1), (4, .ref b2), (5, .int i)]) hx hb dL_law_567 hl (by decide) rfl (fun ls hl => ?_)
      refine lv_aload_n hx hb dL_law_569 rfl (lv_at hl 4 rfl) ?_
      have hPc := rP hP
      have hDc := rD hD
      have hF := fA hDc hS hA
      refine va_calli (va_runV (As := []) (rest := []) ⟨hx, hb, hml, hown, hts⟩ (c_X9_thrown l dC dI cA adm τ  H.size _ hwp) (cwV 0 hts gL_law_X9_thrown rfl rfl rfl (by decide +kernel) ⟨Nat.le_of_ble_eq_true rfl, Nat.le_of_ble_eq_true rfl⟩) ⟨fbC, va_recv hK hPc (ci := 9) (q0 := 0) rfl atModel, fun U hU hW => ⟨rfl, by rw [hU], by rw [hU]; exact hPc, va_K.moved hW.alike hK, hDc.weaken (fun _ _ _ _ => trivial)⟩⟩ rfl rfl hl.1 rfl (lv_room (Nat.le_of_ble_eq_true rfl)) dL_law_570 ⟨by show _ ≤ 601024; omega, by show _ ≤ 7293034; omega⟩) hS (fun q _ h => hF q h) hF (fun r19 τ t H1 locs ht hvm hwp hB hz1 hk1 hS => ?_)
      obtain ⟨hP1, hK1, hD1⟩ := hB
      rw [ht] at hP1
      obtain ⟨hP, hD⟩ := jR hP hD hk1 hF hP1 hD1
      have hP : va_P (dC, dI) vwCl (Wl cA b1 b2 ad n o d σ ++ Wm cA adm τ) H1 := hP
      have hD : va_D (fun q : Nat => s.heap.size ≤ q) (Wl cA b1 b2 ad n o d σ ++ Wm cA adm τ) := hD
      generalize H1 = H at hP hS ⊢
      clear hPc hDc hF hP1 hD1 hK1 hk1 hz1
      refine lv_iload hx hb dL_law_573 (lv_at hl 1 rfl) ?_
      refine lv_icmp_eq (tgt := 580) hx hb dL_law_575 (by decide) (fun c_575 => ?_) (fun c_575 => ?_)
      · replace hwp := hwp.1 c_575
        refine lv_iload hx hb dL_law_580 (lv_at hl 1 rfl) ?_
        refine lv_if_ne (tgt := 597) hx hb dL_law_582 (by decide) (fun c_582 => ?_) (fun c_582 => ?_)
        · replace hwp := hwp.1 c_582
          refine lv_goto (tgt := 1025) hx hb dL_law_597 (by decide) ?_
          refine W.widen (k := cs + 2) (n := sl + 14) (by omega) (by omega) ?_
          exact hnext ad n o d σ τ hwp had _ _ _ hP hD hS (lv_sub hl [2, 3, 4, 5, 6, 7] rfl)
        · replace hwp := hwp.2 c_582
          refine lv_aload_n hx hb dL_law_585 rfl (lv_at hl 5 rfl) ?_
          refine lv_iconst (v := 0) hx hb dL_law_586 (by decide) ?_
          refine va_lald (D := (dC, dI)) hx hb hK hP 0 5 (ha := rfl) (ht := rfl) (vp_in_nI (n := 0) (N := 1) (by decide) (by decide)) dL_law_587 ?_
          refine lv_iload hx hb dL_law_588 (lv_at hl 0 rfl) ?_
          refine lv_i2l (v := r18.toInt64) hx hb dL_law_590 rfl ?_
          refine W.lcmp hx hb dL_law_591 ?_
          refine lv_if_eq (tgt := 597) hx hb dL_law_592 (by decide) (fun c_592 => ?_) (fun c_592 => ?_)
          · replace hwp := hwp.1 c_592
            refine lv_goto (tgt := 1025) hx hb dL_law_597 (by decide) ?_
            refine W.widen (k := cs + 2) (n := sl + 14) (by omega) (by omega) ?_
            exact hnext ad n o d σ τ hwp had _ _ _ hP hD hS (lv_sub hl [2, 3, 4, 5, 6, 7] rfl)
          · replace hwp := hwp.2 c_592
            refine lv_iconst (v := 0) hx hb dL_law_595 (by decide) ?_
            exact hwp.elim
      · replace hwp := hwp.2 c_575
        refine lv_iconst (v := 0) hx hb dL_law_578 (by decide) ?_
        exact hwp.elim
def wp_case6 (xs : Nat → Int32) (L : Nat) (i : Int32) (n : Nat) (o : Nat → Int64) (d : Nat → UInt64) (σ τ : ST) (Kn : Nat → (Nat → Int64) → (Nat → UInt64) → ST → ST → Prop) : Prop := vp_in (i + 1) L ∧
wp_L_tick n o d σ (xs (i + 1).toNatClampNeg) (fun r2 o d σ =>
vp_in (i + 1) L ∧
wp_X9_tick τ (xs (i + 1).toNatClampNeg) (fun r4 τ =>
wp_X9_thrown τ  (fun r5 τ =>
((r5 = r2 → (((¬ r2 = 0 → (Kn n o d σ τ)) ∧ (r2 = 0 → ((((lg_cmp (o (0 : Int32).toNatClampNeg) r4.toInt64) = 0 → (Kn n o d σ τ)) ∧ (¬ ((lg_cmp (o (0 : Int32).toNatClampNeg) r4.toInt64) = 0) → (False)))))))) ∧ (¬ (r5 = r2) → (False)))
)
)
)
set_option maxHeartbeats 16000000 in
set_option maxRecDepth 100000 in
theorem law_case6 {p : Program} {l : Launch} {e : Env} {s : State} {m : MethodId} {below : List Frame} {meth : Method} {c : Code} {Q : State → Prop} {dC : Nat → ClassId} {dI : Nat → Nat → Nat} {cA : Nat → ClassId} {b1 b2 b L : Nat} {xs : Nat → Int32} {adm : Nat → Nat → Nat} {cs sl : Nat} (C : lcx p l s m c b L xs dC dI cA) (hcs : cs + 2 ≤ 601024) (hsl : sl + 14 ≤ 7293034) {a0 : Nat} (Kn : Nat → (Nat → Int64) → (Nat → UInt64) → ST → ST → Prop) {i : Int32} (hnext : ∀ (ad : Nat → Nat → Nat) (n : Nat) (o : Nat → Int64) (d : Nat → UInt64) (σ τ : ST), Kn n o d σ τ → ad 8 0 = a0 → ∀ (H : Heap) (locs : List Loc) (ls : Array Slot), va_P (dC, dI) vwCl (Wl cA b1 b2 ad n o d σ ++ Wm cA adm τ) H → va_D (fun q : Nat => s.heap.size ≤ q) (Wl cA b1 b2 ad n o d σ ++ Wm cA adm τ) → va_S (fun q : Nat => s.heap.size ≤ q) s.heap H locs → lv_has ls 10 [(0, .ref b), (1, .ref (ad 8 0)), (2, .ref (adm 9 0)), (3, .ref b1), (4, .ref b2), (5, .int i)] → W p l e room_1 s m #[Value.ref b] below meth c H locs (cs + 2) (sl + 14) Q (F0 m 1025 ls []))
    (ad : Nat → Nat → Nat) (n : Nat) (o : Nat → Int64) (d : Nat → UInt64) (σ τ : ST) (hwp : wp_case6 xs L i n o d σ τ Kn) (had : ad 8 0 = a0) (H : Heap) (locs : List Loc) (ls : Array Slot) (hP : va_P (dC, dI) vwCl (Wl cA b1 b2 ad n o d σ ++ Wm cA adm τ) H) (hD : va_D (fun q : Nat => s.heap.size ≤ q) (Wl cA b1 b2 ad n o d σ ++ Wm cA adm τ)) (hS : va_S (fun q : Nat => s.heap.size ≤ q) s.heap H locs) (hl : lv_has ls 10 [(0, .ref b), (1, .ref (ad 8 0)), (2, .ref (adm 9 0)), (3, .ref b1), (4, .ref b2), (5, .int i)]) : W p l e room_1 s m #[Value.ref b] below meth c H locs cs sl Q (F0 m 600 ls []) := by
  obtain ⟨hx, hb, hml, hown, hts, hX, hbl, hK, hT, hfl⟩ := C
  have hA : ∀ q : Nat, s.heap.size ≤ q → (fun q : Nat => s.heap.size ≤ q) q := fun _ h => h
  have hbA : ¬ (fun q : Nat => s.heap.size ≤ q) b := Nat.not_le.mpr hbl
  unfold wp_case6 at hwp
  refine lv_aload_n hx hb dL_law_600 rfl (lv_at hl 1 rfl) ?_
  refine lv_aload_n hx hb dL_law_601 rfl (lv_at hl 0 rfl) ?_
  refine lv_iload hx hb dL_law_602 (lv_at hl 5 rfl) ?_
  refine lv_iconst (v := 1) hx hb dL_law_604 (by decide) ?_
  refine lv_iadd hx hb dL_law_605 ?_
  obtain ⟨hi_1, hwp⟩ := hwp
  refine va_sld hx hb hX hbl hbA hS hi_1 dL_law_606 ?_
  refine lv_aload_n hx hb dL_law_607 rfl (lv_at hl 3 rfl) ?_
  have hPc := lP hP
  have hDc := lD hD
  have hF := fA hDc hS hA
  refine vx_calli (vx_runSX (As := [.ref (ad 8 0), .int (xs (i + 1).toNatClampNeg), .ref b1]) (rest := []) ⟨hx, hb, hml, hown, hts⟩ (c_L_tick l hfl dC dI cA b1 b2 ad n o d σ (xs (i + 1).toNatClampNeg) H.size _ hwp) (vx_cwSW 3 hts gL_law_L_tick rfl rfl rfl (by decide +kernel) ⟨Nat.le_of_ble_eq_true rfl, Nat.le_of_ble_eq_true rfl⟩) ⟨fbX, fun U hU hW => ⟨rfl, ⟨by rw [hU], by rw [hU]; exact hPc, va_K.moved hW.alike hK, hDc.weaken (fun _ _ _ _ => trivial)⟩, hT.move hW hS hU hF⟩⟩ rfl rfl hl.1 rfl (lv_room (Nat.le_of_ble_eq_true rfl)) dL_law_608 ⟨by show _ ≤ 601024; omega, by show _ ≤ 7293034; omega⟩) hS (fun q _ h => hF q h) hF (fun q _ h => hF q h) (fun E ce q9 u t H1 locs ht hvm hpx hBX hz1 hk1 hS1 hce hcv hcl => hpx.elim) (fun r2 u t H1 locs ht hvm hwp hB hz1 hk1 hS => ?_)
  obtain ⟨o, d, σ⟩ := u
  obtain ⟨hP1, hK1, hD1⟩ := hB
  rw [ht] at hP1
  obtain ⟨hP, hD⟩ := jL hP hD hk1 hF hP1 hD1
  generalize H1 = H at hP hS ⊢
  clear hPc hDc hF hP1 hD1 hK1 hk1 hz1
  refine lv_istore (lv' := [(6, .int r2), (0, .ref b), (1, .ref (ad 8 0)), (2, .ref (adm 9 0)), (3, .ref b1), (4, .ref b2), (5, .int i)]) hx hb dL_law_611 hl (by decide) rfl (fun ls hl => ?_)
  refine lv_aload_n hx hb dL_law_613 rfl (lv_at hl 3 rfl) ?_
  refine lv_aload_n hx hb dL_law_614 rfl (lv_at hl 1 rfl) ?_
  refine lv_iload hx hb dL_law_615 (lv_at hl 6 rfl) ?_
  refine lv_iconst (v := 1) hx hb dL_law_617 (by decide) ?_
  refine lv_iadd hx hb dL_law_618 ?_
  obtain ⟨hi_3, hwp⟩ := hwp
  refine va_sld hx hb hX hbl hbA hS hi_3 dL_law_619 ?_
  have hPc := rP hP
  have hDc := rD hD
  have hF := fA hDc hS hA
  refine va_calli (va_runV (As := [.int (xs (i + 1).toNatClampNeg)]) (rest := []) ⟨hx, hb, hml, hown, hts⟩ (c_X9_tick l dC dI cA adm τ (xs (i + 1).toNatClampNeg) H.size _ hwp) (cwV 1 hts gL_law_X9_tick rfl rfl rfl (by decide +kernel) ⟨Nat.le_of_ble_eq_true rfl, Nat.le_of_ble_eq_true rfl⟩) ⟨fbC, va_recv hK hPc (ci := 9) (q0 := 0) rfl atModel, fun U hU hW => ⟨rfl, by rw [hU], by rw [hU]; exact hPc, va_K.moved hW.alike hK, hDc.weaken (fun _ _ _ _ => trivial)⟩⟩ rfl rfl hl.1 rfl (lv_room (Nat.le_of_ble_eq_true rfl)) dL_law_620 ⟨by show _ ≤ 601024; omega, by show _ ≤ 7293034; omega⟩) hS (fun q _ h => hF q h) hF (fun r4 τ t H1 locs ht hvm hwp hB hz1 hk1 hS => ?_)
  obtain ⟨hP1, hK1, hD1⟩ := hB
  rw [ht] at hP1
  obtain ⟨hP, hD⟩ := jR hP hD hk1 hF hP1 hD1
  have hP : va_P (dC, dI) vwCl (Wl cA b1 b2 ad n o d σ ++ Wm cA adm τ) H1 := hP
  have hD : va_D (fun q : Nat => s.heap.size ≤ q) (Wl cA b1 b2 ad n o d σ ++ Wm cA adm τ) := hD
  generalize H1 = H at hP hS ⊢
  clear hPc hDc hF hP1 hD1 hK1 hk1 hz1
  refine lv_istore (lv' := [(7, .int r4), (6, .int r2), (0, .ref b), (1, .ref (ad 8 0)), (2, .ref (adm 9 0)), (3, .ref b1), (4, .ref b2), (5, .int i)]) hx hb dL_law_623 hl (by decide) rfl (fun ls hl => ?_)
  refine lv_aload_n hx hb dL_law_625 rfl (lv_at hl 4 rfl) ?_
  have hPc := rP hP
  have hDc := rD hD
  have hF := fA hDc hS hA
  refine va_calli (va_runV (As := []) (rest := []) ⟨hx, hb, hml, hown, hts⟩ (c_X9_thrown l dC dI cA adm τ  H.size _ hwp) (cwV 0 hts gL_law_X9_thrown rfl rfl rfl (by decide +kernel) ⟨Nat.le_of_ble_eq_true rfl, Nat.le_of_ble_eq_true rfl⟩) ⟨fbC, va_recv hK hPc (ci := 9) (q0 := 0) rfl atModel, fun U hU hW => ⟨rfl, by rw [hU], by rw [hU]; exact hPc, va_K.moved hW.alike hK, hDc.weaken (fun _ _ _ _ => trivial)⟩⟩ rfl rfl hl.1 rfl (lv_room (Nat.le_of_ble_eq_true rfl)) dL_law_626 ⟨by show _ ≤ 601024; omega, by show _ ≤ 7293034; omega⟩) hS (fun q _ h => hF q h) hF (fun r5 τ t H1 locs ht hvm hwp hB hz1 hk1 hS => ?_)
  obtain ⟨hP1, hK1, hD1⟩ := hB
  rw [ht] at hP1
  obtain ⟨hP, hD⟩ := jR hP hD hk1 hF hP1 hD1
  have hP : va_P (dC, dI) vwCl (Wl cA b1 b2 ad n o d σ ++ Wm cA adm τ) H1 := hP
  have hD : va_D (fun q : Nat => s.heap.size ≤ q) (Wl cA b1 b2 ad n o d σ ++ Wm cA adm τ) := hD
  generalize H1 = H at hP hS ⊢
  clear hPc hDc hF hP1 hD1 hK1 hk1 hz1
  refine lv_iload hx hb dL_law_629 (lv_at hl 1 rfl) ?_
  refine lv_icmp_eq (tgt := 636) hx hb dL_law_631 (by decide) (fun c_631 => ?_) (fun c_631 => ?_)
  · replace hwp := hwp.1 c_631
    refine lv_iload hx hb dL_law_636 (lv_at hl 1 rfl) ?_
    refine lv_if_ne (tgt := 653) hx hb dL_law_638 (by decide) (fun c_638 => ?_) (fun c_638 => ?_)
    · replace hwp := hwp.1 c_638
      refine lv_goto (tgt := 1025) hx hb dL_law_653 (by decide) ?_
      refine W.widen (k := cs + 2) (n := sl + 14) (by omega) (by omega) ?_
      exact hnext ad n o d σ τ hwp had _ _ _ hP hD hS (lv_sub hl [2, 3, 4, 5, 6, 7] rfl)
    · replace hwp := hwp.2 c_638
      refine lv_aload_n hx hb dL_law_641 rfl (lv_at hl 5 rfl) ?_
      refine lv_iconst (v := 0) hx hb dL_law_642 (by decide) ?_
      refine va_lald (D := (dC, dI)) hx hb hK hP 0 5 (ha := rfl) (ht := rfl) (vp_in_nI (n := 0) (N := 1) (by decide) (by decide)) dL_law_643 ?_
      refine lv_iload hx hb dL_law_644 (lv_at hl 0 rfl) ?_
      refine lv_i2l (v := r4.toInt64) hx hb dL_law_646 rfl ?_
      refine W.lcmp hx hb dL_law_647 ?_
      refine lv_if_eq (tgt := 653) hx hb dL_law_648 (by decide) (fun c_648 => ?_) (fun c_648 => ?_)
      · replace hwp := hwp.1 c_648
        refine lv_goto (tgt := 1025) hx hb dL_law_653 (by decide) ?_
        refine W.widen (k := cs + 2) (n := sl + 14) (by omega) (by omega) ?_
        exact hnext ad n o d σ τ hwp had _ _ _ hP hD hS (lv_sub hl [2, 3, 4, 5, 6, 7] rfl)
      · replace hwp := hwp.2 c_648
        refine lv_iconst (v := 0) hx hb dL_law_651 (by decide) ?_
        exact hwp.elim
  · replace hwp := hwp.2 c_631
    refine lv_iconst (v := 0) hx hb dL_law_634 (by decide) ?_
    exact hwp.elim
def wp_case7 (xs : Nat → Int32) (L : Nat) (i : Int32) (n : Nat) (o : Nat → Int64) (d : Nat → UInt64) (σ τ : ST) (Kn : Nat → (Nat → Int64) → (Nat → UInt64) → ST → ST → Prop) : Prop := vp_in (i + 1) L ∧
vp_in (i + 2) L ∧
wp_L_count n o d σ (xs (i + 1).toNatClampNeg) (xs (i + 2).toNatClampNeg) (fun r3 o d σ =>
vp_in (i + 1) L ∧
vp_in (i + 2) L ∧
wp_X9_count τ (xs (i + 1).toNatClampNeg) (xs (i + 2).toNatClampNeg) (fun r6 τ =>
wp_X9_thrown τ  (fun r7 τ =>
((r7 = r3 → (((¬ r3 = 0 → (Kn n o d σ τ)) ∧ (r3 = 0 → ((((lg_cmp (o (0 : Int32).toNatClampNeg) r6.toInt64) = 0 → (Kn n o d σ τ)) ∧ (¬ ((lg_cmp (o (0 : Int32).toNatClampNeg) r6.toInt64) = 0) → (False)))))))) ∧ (¬ (r7 = r3) → (False)))
)
)
)
set_option maxHeartbeats 16000000 in
set_option maxRecDepth 100000 in
theorem law_case7 {p : Program} {l : Launch} {e : Env} {s : State} {m : MethodId} {below : List Frame} {meth : Method} {c : Code} {Q : State → Prop} {dC : Nat → ClassId} {dI : Nat → Nat → Nat} {cA : Nat → ClassId} {b1 b2 b L : Nat} {xs : Nat → Int32} {adm : Nat → Nat → Nat} {cs sl : Nat} (C : lcx p l s m c b L xs dC dI cA) (hcs : cs + 2 ≤ 601024) (hsl : sl + 14 ≤ 7293034) {a0 : Nat} (Kn : Nat → (Nat → Int64) → (Nat → UInt64) → ST → ST → Prop) {i : Int32} (hnext : ∀ (ad : Nat → Nat → Nat) (n : Nat) (o : Nat → Int64) (d : Nat → UInt64) (σ τ : ST), Kn n o d σ τ → ad 8 0 = a0 → ∀ (H : Heap) (locs : List Loc) (ls : Array Slot), va_P (dC, dI) vwCl (Wl cA b1 b2 ad n o d σ ++ Wm cA adm τ) H → va_D (fun q : Nat => s.heap.size ≤ q) (Wl cA b1 b2 ad n o d σ ++ Wm cA adm τ) → va_S (fun q : Nat => s.heap.size ≤ q) s.heap H locs → lv_has ls 10 [(0, .ref b), (1, .ref (ad 8 0)), (2, .ref (adm 9 0)), (3, .ref b1), (4, .ref b2), (5, .int i)] → W p l e room_1 s m #[Value.ref b] below meth c H locs (cs + 2) (sl + 14) Q (F0 m 1025 ls []))
    (ad : Nat → Nat → Nat) (n : Nat) (o : Nat → Int64) (d : Nat → UInt64) (σ τ : ST) (hwp : wp_case7 xs L i n o d σ τ Kn) (had : ad 8 0 = a0) (H : Heap) (locs : List Loc) (ls : Array Slot) (hP : va_P (dC, dI) vwCl (Wl cA b1 b2 ad n o d σ ++ Wm cA adm τ) H) (hD : va_D (fun q : Nat => s.heap.size ≤ q) (Wl cA b1 b2 ad n o d σ ++ Wm cA adm τ)) (hS : va_S (fun q : Nat => s.heap.size ≤ q) s.heap H locs) (hl : lv_has ls 10 [(0, .ref b), (1, .ref (ad 8 0)), (2, .ref (adm 9 0)), (3, .ref b1), (4, .ref b2), (5, .int i)]) : W p l e room_1 s m #[Value.ref b] below meth c H locs cs sl Q (F0 m 656 ls []) := by
  obtain ⟨hx, hb, hml, hown, hts, hX, hbl, hK, hT, hfl⟩ := C
  have hA : ∀ q : Nat, s.heap.size ≤ q → (fun q : Nat => s.heap.size ≤ q) q := fun _ h => h
  have hbA : ¬ (fun q : Nat => s.heap.size ≤ q) b := Nat.not_le.mpr hbl
  unfold wp_case7 at hwp
  refine lv_aload_n hx hb dL_law_656 rfl (lv_at hl 1 rfl) ?_
  refine lv_aload_n hx hb dL_law_657 rfl (lv_at hl 0 rfl) ?_
  refine lv_iload hx hb dL_law_658 (lv_at hl 5 rfl) ?_
  refine lv_iconst (v := 1) hx hb dL_law_660 (by decide) ?_
  refine lv_iadd hx hb dL_law_661 ?_
  obtain ⟨hi_1, hwp⟩ := hwp
  refine va_sld hx hb hX hbl hbA hS hi_1 dL_law_662 ?_
  refine lv_aload_n hx hb dL_law_663 rfl (lv_at hl 0 rfl) ?_
  refine lv_iload hx hb dL_law_664 (lv_at hl 5 rfl) ?_
  refine lv_iconst (v := 2) hx hb dL_law_666 (by decide) ?_
  refine lv_iadd hx hb dL_law_667 ?_
  obtain ⟨hi_2, hwp⟩ := hwp
  refine va_sld hx hb hX hbl hbA hS hi_2 dL_law_668 ?_
  refine lv_aload_n hx hb dL_law_669 rfl (lv_at hl 3 rfl) ?_
  have hPc := lP hP
  have hDc := lD hD
  have hF := fA hDc hS hA
  refine vx_calli (vx_runSX (As := [.ref (ad 8 0), .int (xs (i + 1).toNatClampNeg), .int (xs (i + 2).toNatClampNeg), .ref b1]) (rest := []) ⟨hx, hb, hml, hown, hts⟩ (c_L_count l hfl dC dI cA b1 b2 ad n o d σ (xs (i + 1).toNatClampNeg) (xs (i + 2).toNatClampNeg) H.size _ hwp) (vx_cwSW 4 hts gL_law_L_count rfl rfl rfl (by decide +kernel) ⟨Nat.le_of_ble_eq_true rfl, Nat.le_of_ble_eq_true rfl⟩) ⟨fbX, fun U hU hW => ⟨rfl, ⟨by rw [hU], by rw [hU]; exact hPc, va_K.moved hW.alike hK, hDc.weaken (fun _ _ _ _ => trivial)⟩, hT.move hW hS hU hF⟩⟩ rfl rfl hl.1 rfl (lv_room (Nat.le_of_ble_eq_true rfl)) dL_law_670 ⟨by show _ ≤ 601024; omega, by show _ ≤ 7293034; omega⟩) hS (fun q _ h => hF q h) hF (fun q _ h => hF q h) (fun E ce q9 u t H1 locs ht hvm hpx hBX hz1 hk1 hS1 hce hcv hcl => hpx.elim) (fun r3 u t H1 locs ht hvm hwp hB hz1 hk1 hS => ?_)
  obtain ⟨o, d, σ⟩ := u
  obtain ⟨hP1, hK1, hD1⟩ := hB
  rw [ht] at hP1
  obtain ⟨hP, hD⟩ := jL hP hD hk1 hF hP1 hD1
  generalize H1 = H at hP hS ⊢
  clear hPc hDc hF hP1 hD1 hK1 hk1 hz1
  refine lv_istore (lv' := [(6, .int r3), (0, .ref b), (1, .ref (ad 8 0)), (2, .ref (adm 9 0)), (3, .ref b1), (4, .ref b2), (5, .int i)]) hx hb dL_law_673 hl (by decide) rfl (fun ls hl => ?_)
  refine lv_aload_n hx hb dL_law_675 rfl (lv_at hl 3 rfl) ?_
  refine lv_aload_n hx hb dL_law_676 rfl (lv_at hl 1 rfl) ?_
  refine lv_iload hx hb dL_law_677 (lv_at hl 6 rfl) ?_
  refine lv_iconst (v := 1) hx hb dL_law_679 (by decide) ?_
  refine lv_iadd hx hb dL_law_680 ?_
  obtain ⟨hi_4, hwp⟩ := hwp
  refine va_sld hx hb hX hbl hbA hS hi_4 dL_law_681 ?_
  refine lv_aload_n hx hb dL_law_682 rfl (lv_at hl 1 rfl) ?_
  refine lv_iload hx hb dL_law_683 (lv_at hl 6 rfl) ?_
  refine lv_iconst (v := 2) hx hb dL_law_685 (by decide) ?_
  refine lv_iadd hx hb dL_law_686 ?_
  obtain ⟨hi_5, hwp⟩ := hwp
  refine va_sld hx hb hX hbl hbA hS hi_5 dL_law_687 ?_
  have hPc := rP hP
  have hDc := rD hD
  have hF := fA hDc hS hA
  refine va_calli (va_runV (As := [.int (xs (i + 1).toNatClampNeg), .int (xs (i + 2).toNatClampNeg)]) (rest := []) ⟨hx, hb, hml, hown, hts⟩ (c_X9_count l dC dI cA adm τ (xs (i + 1).toNatClampNeg) (xs (i + 2).toNatClampNeg) H.size _ hwp) (cwV 2 hts gL_law_X9_count rfl rfl rfl (by decide +kernel) ⟨Nat.le_of_ble_eq_true rfl, Nat.le_of_ble_eq_true rfl⟩) ⟨fbC, va_recv hK hPc (ci := 9) (q0 := 0) rfl atModel, fun U hU hW => ⟨rfl, by rw [hU], by rw [hU]; exact hPc, va_K.moved hW.alike hK, hDc.weaken (fun _ _ _ _ => trivial)⟩⟩ rfl rfl hl.1 rfl (lv_room (Nat.le_of_ble_eq_true rfl)) dL_law_688 ⟨by show _ ≤ 601024; omega, by show _ ≤ 7293034; omega⟩) hS (fun q _ h => hF q h) hF (fun r6 τ t H1 locs ht hvm hwp hB hz1 hk1 hS => ?_)
  obtain ⟨hP1, hK1, hD1⟩ := hB
  rw [ht] at hP1
  obtain ⟨hP, hD⟩ := jR hP hD hk1 hF hP1 hD1
  have hP : va_P (dC, dI) vwCl (Wl cA b1 b2 ad n o d σ ++ Wm cA adm τ) H1 := hP
  have hD : va_D (fun q : Nat => s.heap.size ≤ q) (Wl cA b1 b2 ad n o d σ ++ Wm cA adm τ) := hD
  generalize H1 = H at hP hS ⊢
  clear hPc hDc hF hP1 hD1 hK1 hk1 hz1
  refine lv_istore (lv' := [(7, .int r6), (6, .int r3), (0, .ref b), (1, .ref (ad 8 0)), (2, .ref (adm 9 0)), (3, .ref b1), (4, .ref b2), (5, .int i)]) hx hb dL_law_691 hl (by decide) rfl (fun ls hl => ?_)
  refine lv_aload_n hx hb dL_law_693 rfl (lv_at hl 4 rfl) ?_
  have hPc := rP hP
  have hDc := rD hD
  have hF := fA hDc hS hA
  refine va_calli (va_runV (As := []) (rest := []) ⟨hx, hb, hml, hown, hts⟩ (c_X9_thrown l dC dI cA adm τ  H.size _ hwp) (cwV 0 hts gL_law_X9_thrown rfl rfl rfl (by decide +kernel) ⟨Nat.le_of_ble_eq_true rfl, Nat.le_of_ble_eq_true rfl⟩) ⟨fbC, va_recv hK hPc (ci := 9) (q0 := 0) rfl atModel, fun U hU hW => ⟨rfl, by rw [hU], by rw [hU]; exact hPc, va_K.moved hW.alike hK, hDc.weaken (fun _ _ _ _ => trivial)⟩⟩ rfl rfl hl.1 rfl (lv_room (Nat.le_of_ble_eq_true rfl)) dL_law_694 ⟨by show _ ≤ 601024; omega, by show _ ≤ 7293034; omega⟩) hS (fun q _ h => hF q h) hF (fun r7 τ t H1 locs ht hvm hwp hB hz1 hk1 hS => ?_)
  obtain ⟨hP1, hK1, hD1⟩ := hB
  rw [ht] at hP1
  obtain ⟨hP, hD⟩ := jR hP hD hk1 hF hP1 hD1
  have hP : va_P (dC, dI) vwCl (Wl cA b1 b2 ad n o d σ ++ Wm cA adm τ) H1 := hP
  have hD : va_D (fun q : Nat => s.heap.size ≤ q) (Wl cA b1 b2 ad n o d σ ++ Wm cA adm τ) := hD
  generalize H1 = H at hP hS ⊢
  clear hPc hDc hF hP1 hD1 hK1 hk1 hz1
  refine lv_iload hx hb dL_law_697 (lv_at hl 1 rfl) ?_
  refine lv_icmp_eq (tgt := 704) hx hb dL_law_699 (by decide) (fun c_699 => ?_) (fun c_699 => ?_)
  · replace hwp := hwp.1 c_699
    refine lv_iload hx hb dL_law_704 (lv_at hl 1 rfl) ?_
    refine lv_if_ne (tgt := 721) hx hb dL_law_706 (by decide) (fun c_706 => ?_) (fun c_706 => ?_)
    · replace hwp := hwp.1 c_706
      refine lv_goto (tgt := 1025) hx hb dL_law_721 (by decide) ?_
      refine W.widen (k := cs + 2) (n := sl + 14) (by omega) (by omega) ?_
      exact hnext ad n o d σ τ hwp had _ _ _ hP hD hS (lv_sub hl [2, 3, 4, 5, 6, 7] rfl)
    · replace hwp := hwp.2 c_706
      refine lv_aload_n hx hb dL_law_709 rfl (lv_at hl 5 rfl) ?_
      refine lv_iconst (v := 0) hx hb dL_law_710 (by decide) ?_
      refine va_lald (D := (dC, dI)) hx hb hK hP 0 5 (ha := rfl) (ht := rfl) (vp_in_nI (n := 0) (N := 1) (by decide) (by decide)) dL_law_711 ?_
      refine lv_iload hx hb dL_law_712 (lv_at hl 0 rfl) ?_
      refine lv_i2l (v := r6.toInt64) hx hb dL_law_714 rfl ?_
      refine W.lcmp hx hb dL_law_715 ?_
      refine lv_if_eq (tgt := 721) hx hb dL_law_716 (by decide) (fun c_716 => ?_) (fun c_716 => ?_)
      · replace hwp := hwp.1 c_716
        refine lv_goto (tgt := 1025) hx hb dL_law_721 (by decide) ?_
        refine W.widen (k := cs + 2) (n := sl + 14) (by omega) (by omega) ?_
        exact hnext ad n o d σ τ hwp had _ _ _ hP hD hS (lv_sub hl [2, 3, 4, 5, 6, 7] rfl)
      · replace hwp := hwp.2 c_716
        refine lv_iconst (v := 0) hx hb dL_law_719 (by decide) ?_
        exact hwp.elim
  · replace hwp := hwp.2 c_699
    refine lv_iconst (v := 0) hx hb dL_law_702 (by decide) ?_
    exact hwp.elim
def wp_case8 (xs : Nat → Int32) (L : Nat) (i : Int32) (n : Nat) (o : Nat → Int64) (d : Nat → UInt64) (σ τ : ST) (Kn : Nat → (Nat → Int64) → (Nat → UInt64) → ST → ST → Prop) : Prop := vp_in (i + 1) L ∧
wp_L_average n o d σ (xs (i + 1).toNatClampNeg) (fun r2 o d σ =>
vp_in (i + 1) L ∧
wp_X9_average τ (xs (i + 1).toNatClampNeg) (fun r4 τ =>
wp_X9_thrown τ  (fun r5 τ =>
((r5 = r2 → (((¬ r2 = 0 → (Kn n o d σ τ)) ∧ (r2 = 0 → ((((Op.cmpValue (FP.dcmp (d (0 : Int32).toNatClampNeg) r4) .l) = 0 → (Kn n o d σ τ)) ∧ (¬ ((Op.cmpValue (FP.dcmp (d (0 : Int32).toNatClampNeg) r4) .l) = 0) → ((((Op.cmpValue (FP.dcmp (d (0 : Int32).toNatClampNeg) (d (0 : Int32).toNatClampNeg)) .l) = 0 → (False)) ∧ (¬ ((Op.cmpValue (FP.dcmp (d (0 : Int32).toNatClampNeg) (d (0 : Int32).toNatClampNeg)) .l) = 0) → (((¬ (Op.cmpValue (FP.dcmp r4 r4) .l) = 0 → (Kn n o d σ τ)) ∧ ((Op.cmpValue (FP.dcmp r4 r4) .l) = 0 → (False)))))))))))))) ∧ (¬ (r5 = r2) → (False)))
)
)
)
set_option maxHeartbeats 16000000 in
set_option maxRecDepth 100000 in
theorem law_case8 {p : Program} {l : Launch} {e : Env} {s : State} {m : MethodId} {below : List Frame} {meth : Method} {c : Code} {Q : State → Prop} {dC : Nat → ClassId} {dI : Nat → Nat → Nat} {cA : Nat → ClassId} {b1 b2 b L : Nat} {xs : Nat → Int32} {adm : Nat → Nat → Nat} {cs sl : Nat} (C : lcx p l s m c b L xs dC dI cA) (hcs : cs + 2 ≤ 601024) (hsl : sl + 14 ≤ 7293034) {a0 : Nat} (Kn : Nat → (Nat → Int64) → (Nat → UInt64) → ST → ST → Prop) {i : Int32} (hnext : ∀ (ad : Nat → Nat → Nat) (n : Nat) (o : Nat → Int64) (d : Nat → UInt64) (σ τ : ST), Kn n o d σ τ → ad 8 0 = a0 → ∀ (H : Heap) (locs : List Loc) (ls : Array Slot), va_P (dC, dI) vwCl (Wl cA b1 b2 ad n o d σ ++ Wm cA adm τ) H → va_D (fun q : Nat => s.heap.size ≤ q) (Wl cA b1 b2 ad n o d σ ++ Wm cA adm τ) → va_S (fun q : Nat => s.heap.size ≤ q) s.heap H locs → lv_has ls 10 [(0, .ref b), (1, .ref (ad 8 0)), (2, .ref (adm 9 0)), (3, .ref b1), (4, .ref b2), (5, .int i)] → W p l e room_1 s m #[Value.ref b] below meth c H locs (cs + 2) (sl + 14) Q (F0 m 1025 ls []))
    (ad : Nat → Nat → Nat) (n : Nat) (o : Nat → Int64) (d : Nat → UInt64) (σ τ : ST) (hwp : wp_case8 xs L i n o d σ τ Kn) (had : ad 8 0 = a0) (H : Heap) (locs : List Loc) (ls : Array Slot) (hP : va_P (dC, dI) vwCl (Wl cA b1 b2 ad n o d σ ++ Wm cA adm τ) H) (hD : va_D (fun q : Nat => s.heap.size ≤ q) (Wl cA b1 b2 ad n o d σ ++ Wm cA adm τ)) (hS : va_S (fun q : Nat => s.heap.size ≤ q) s.heap H locs) (hl : lv_has ls 10 [(0, .ref b), (1, .ref (ad 8 0)), (2, .ref (adm 9 0)), (3, .ref b1), (4, .ref b2), (5, .int i)]) : W p l e room_1 s m #[Value.ref b] below meth c H locs cs sl Q (F0 m 724 ls []) := by
  obtain ⟨hx, hb, hml, hown, hts, hX, hbl, hK, hT, hfl⟩ := C
  have hA : ∀ q : Nat, s.heap.size ≤ q → (fun q : Nat => s.heap.size ≤ q) q := fun _ h => h
  have hbA : ¬ (fun q : Nat => s.heap.size ≤ q) b := Nat.not_le.mpr hbl
  unfold wp_case8 at hwp
  refine lv_aload_n hx hb dL_law_724 rfl (lv_at hl 1 rfl) ?_
  refine lv_aload_n hx hb dL_law_725 rfl (lv_at hl 0 rfl) ?_
  refine lv_iload hx hb dL_law_726 (lv_at hl 5 rfl) ?_
  refine lv_iconst (v := 1) hx hb dL_law_728 (by decide) ?_
  refine lv_iadd hx hb dL_law_729 ?_
  obtain ⟨hi_1, hwp⟩ := hwp
  refine va_sld hx hb hX hbl hbA hS hi_1 dL_law_730 ?_
  refine lv_aload hx hb dL_law_731 (lv_at hl 4 rfl) ?_
  have hPc := lP hP
  have hDc := lD hD
  have hF := fA hDc hS hA
  refine vx_calli (vx_runSX (As := [.ref (ad 8 0), .int (xs (i + 1).toNatClampNeg), .ref b2]) (rest := []) ⟨hx, hb, hml, hown, hts⟩ (c_L_average l hfl dC dI cA b1 b2 ad n o d σ (xs (i + 1).toNatClampNeg) H.size _ hwp) (vx_cwSW 3 hts gL_law_L_average rfl rfl rfl (by decide +kernel) ⟨Nat.le_of_ble_eq_true rfl, Nat.le_of_ble_eq_true rfl⟩) ⟨fbX, fun U hU hW => ⟨rfl, ⟨by rw [hU], by rw [hU]; exact hPc, va_K.moved hW.alike hK, hDc.weaken (fun _ _ _ _ => trivial)⟩, hT.move hW hS hU hF⟩⟩ rfl rfl hl.1 rfl (lv_room (Nat.le_of_ble_eq_true rfl)) dL_law_733 ⟨by show _ ≤ 601024; omega, by show _ ≤ 7293034; omega⟩) hS (fun q _ h => hF q h) hF (fun q _ h => hF q h) (fun E ce q9 u t H1 locs ht hvm hpx hBX hz1 hk1 hS1 hce hcv hcl => hpx.elim) (fun r2 u t H1 locs ht hvm hwp hB hz1 hk1 hS => ?_)
  obtain ⟨o, d, σ⟩ := u
  obtain ⟨hP1, hK1, hD1⟩ := hB
  rw [ht] at hP1
  obtain ⟨hP, hD⟩ := jL hP hD hk1 hF hP1 hD1
  generalize H1 = H at hP hS ⊢
  clear hPc hDc hF hP1 hD1 hK1 hk1 hz1
  refine lv_istore (lv' := [(6, .int r2), (0, .ref b), (1, .ref (ad 8 0)), (2, .ref (adm 9 0)), (3, .ref b1), (4, .ref b2), (5, .int i)]) hx hb dL_law_736 hl (by decide) rfl (fun ls hl => ?_)
  refine lv_aload_n hx hb dL_law_738 rfl (lv_at hl 3 rfl) ?_
  refine lv_aload_n hx hb dL_law_739 rfl (lv_at hl 1 rfl) ?_
  refine lv_iload hx hb dL_law_740 (lv_at hl 6 rfl) ?_
  refine lv_iconst (v := 1) hx hb dL_law_742 (by decide) ?_
  refine lv_iadd hx hb dL_law_743 ?_
  obtain ⟨hi_3, hwp⟩ := hwp
  refine va_sld hx hb hX hbl hbA hS hi_3 dL_law_744 ?_
  have hPc := rP hP
  have hDc := rD hD
  have hF := fA hDc hS hA
  refine va_calld (va_runV (As := [.int (xs (i + 1).toNatClampNeg)]) (rest := []) ⟨hx, hb, hml, hown, hts⟩ (c_X9_average l dC dI cA adm τ (xs (i + 1).toNatClampNeg) H.size _ hwp) (cwV 1 hts gL_law_X9_average rfl rfl rfl (by decide +kernel) ⟨Nat.le_of_ble_eq_true rfl, Nat.le_of_ble_eq_true rfl⟩) ⟨fbC, va_recv hK hPc (ci := 9) (q0 := 0) rfl atModel, fun U hU hW => ⟨rfl, by rw [hU], by rw [hU]; exact hPc, va_K.moved hW.alike hK, hDc.weaken (fun _ _ _ _ => trivial)⟩⟩ rfl rfl hl.1 rfl (lv_room (Nat.le_of_ble_eq_true rfl)) dL_law_745 ⟨by show _ ≤ 601024; omega, by show _ ≤ 7293034; omega⟩) hS (fun q _ h => hF q h) hF (fun r4 τ t H1 locs ht hvm hwp hB hz1 hk1 hS => ?_)
  obtain ⟨hP1, hK1, hD1⟩ := hB
  rw [ht] at hP1
  obtain ⟨hP, hD⟩ := jR hP hD hk1 hF hP1 hD1
  have hP : va_P (dC, dI) vwCl (Wl cA b1 b2 ad n o d σ ++ Wm cA adm τ) H1 := hP
  have hD : va_D (fun q : Nat => s.heap.size ≤ q) (Wl cA b1 b2 ad n o d σ ++ Wm cA adm τ) := hD
  generalize H1 = H at hP hS ⊢
  clear hPc hDc hF hP1 hD1 hK1 hk1 hz1
  refine lv_dstore (lv' := [(7, .double r4), (6, .int r2), (0, .ref b), (1, .ref (ad 8 0)), (2, .ref (adm 9 0)), (3, .ref b1), (4, .ref b2), (5, .int i)]) hx hb dL_law_748 hl (by decide) rfl (fun ls hl => ?_)
  refine lv_aload_n hx hb dL_law_750 rfl (lv_at hl 4 rfl) ?_
  have hPc := rP hP
  have hDc := rD hD
  have hF := fA hDc hS hA
  refine va_calli (va_runV (As := []) (rest := []) ⟨hx, hb, hml, hown, hts⟩ (c_X9_thrown l dC dI cA adm τ  H.size _ hwp) (cwV 0 hts gL_law_X9_thrown rfl rfl rfl (by decide +kernel) ⟨Nat.le_of_ble_eq_true rfl, Nat.le_of_ble_eq_true rfl⟩) ⟨fbC, va_recv hK hPc (ci := 9) (q0 := 0) rfl atModel, fun U hU hW => ⟨rfl, by rw [hU], by rw [hU]; exact hPc, va_K.moved hW.alike hK, hDc.weaken (fun _ _ _ _ => trivial)⟩⟩ rfl rfl hl.1 rfl (lv_room (Nat.le_of_ble_eq_true rfl)) dL_law_751 ⟨by show _ ≤ 601024; omega, by show _ ≤ 7293034; omega⟩) hS (fun q _ h => hF q h) hF (fun r5 τ t H1 locs ht hvm hwp hB hz1 hk1 hS => ?_)
  obtain ⟨hP1, hK1, hD1⟩ := hB
  rw [ht] at hP1
  obtain ⟨hP, hD⟩ := jR hP hD hk1 hF hP1 hD1
  have hP : va_P (dC, dI) vwCl (Wl cA b1 b2 ad n o d σ ++ Wm cA adm τ) H1 := hP
  have hD : va_D (fun q : Nat => s.heap.size ≤ q) (Wl cA b1 b2 ad n o d σ ++ Wm cA adm τ) := hD
  generalize H1 = H at hP hS ⊢
  clear hPc hDc hF hP1 hD1 hK1 hk1 hz1
  refine lv_iload hx hb dL_law_754 (lv_at hl 1 rfl) ?_
  refine lv_icmp_eq (tgt := 761) hx hb dL_law_756 (by decide) (fun c_756 => ?_) (fun c_756 => ?_)
  · replace hwp := hwp.1 c_756
    refine lv_iload hx hb dL_law_761 (lv_at hl 1 rfl) ?_
    refine lv_if_ne (tgt := 798) hx hb dL_law_763 (by decide) (fun c_763 => ?_) (fun c_763 => ?_)
    · replace hwp := hwp.1 c_763
      refine lv_goto (tgt := 1025) hx hb dL_law_798 (by decide) ?_
      refine W.widen (k := cs + 2) (n := sl + 14) (by omega) (by omega) ?_
      exact hnext ad n o d σ τ hwp had _ _ _ hP hD hS (lv_sub hl [2, 3, 4, 5, 6, 7] rfl)
    · replace hwp := hwp.2 c_763
      refine lv_aload hx hb dL_law_766 (lv_at hl 6 rfl) ?_
      refine lv_iconst (v := 0) hx hb dL_law_768 (by decide) ?_
      refine va_dald (D := (dC, dI)) hx hb hK hP 1 0 (ha := rfl) (ht := rfl) (vp_in_nI (n := 0) (N := 1) (by decide) (by decide)) dL_law_769 ?_
      refine lv_dload hx hb dL_law_770 (lv_at hl 0 rfl) ?_
      refine lv_dcmp hx hb dL_law_772 ?_
      refine lv_if_eq (tgt := 798) hx hb dL_law_773 (by decide) (fun c_773 => ?_) (fun c_773 => ?_)
      · replace hwp := hwp.1 c_773
        refine lv_goto (tgt := 1025) hx hb dL_law_798 (by decide) ?_
        refine W.widen (k := cs + 2) (n := sl + 14) (by omega) (by omega) ?_
        exact hnext ad n o d σ τ hwp had _ _ _ hP hD hS (lv_sub hl [2, 3, 4, 5, 6, 7] rfl)
      · replace hwp := hwp.2 c_773
        refine lv_aload hx hb dL_law_776 (lv_at hl 6 rfl) ?_
        refine lv_iconst (v := 0) hx hb dL_law_778 (by decide) ?_
        refine va_dald (D := (dC, dI)) hx hb hK hP 1 0 (ha := rfl) (ht := rfl) (vp_in_nI (n := 0) (N := 1) (by decide) (by decide)) dL_law_779 ?_
        refine lv_aload hx hb dL_law_780 (lv_at hl 6 rfl) ?_
        refine lv_iconst (v := 0) hx hb dL_law_782 (by decide) ?_
        refine va_dald (D := (dC, dI)) hx hb hK hP 1 0 (ha := rfl) (ht := rfl) (vp_in_nI (n := 0) (N := 1) (by decide) (by decide)) dL_law_783 ?_
        refine lv_dcmp hx hb dL_law_784 ?_
        refine lv_if_eq (tgt := 796) hx hb dL_law_785 (by decide) (fun c_785 => ?_) (fun c_785 => ?_)
        · replace hwp := hwp.1 c_785
          refine lv_iconst (v := 0) hx hb dL_law_796 (by decide) ?_
          exact hwp.elim
        · replace hwp := hwp.2 c_785
          refine lv_dload hx hb dL_law_788 (lv_at hl 0 rfl) ?_
          refine lv_dload hx hb dL_law_790 (lv_at hl 0 rfl) ?_
          refine lv_dcmp hx hb dL_law_792 ?_
          refine lv_if_ne (tgt := 798) hx hb dL_law_793 (by decide) (fun c_793 => ?_) (fun c_793 => ?_)
          · replace hwp := hwp.1 c_793
            refine lv_goto (tgt := 1025) hx hb dL_law_798 (by decide) ?_
            refine W.widen (k := cs + 2) (n := sl + 14) (by omega) (by omega) ?_
            exact hnext ad n o d σ τ hwp had _ _ _ hP hD hS (lv_sub hl [2, 3, 4, 5, 6, 7] rfl)
          · replace hwp := hwp.2 c_793
            refine lv_iconst (v := 0) hx hb dL_law_796 (by decide) ?_
            exact hwp.elim
  · replace hwp := hwp.2 c_756
    refine lv_iconst (v := 0) hx hb dL_law_759 (by decide) ?_
    exact hwp.elim
def wp_case9 (xs : Nat → Int32) (L : Nat) (i : Int32) (n : Nat) (o : Nat → Int64) (d : Nat → UInt64) (σ τ : ST) (Kn : Nat → (Nat → Int64) → (Nat → UInt64) → ST → ST → Prop) : Prop := vp_in (i + 1) L ∧
wp_L_next n o d σ (xs (i + 1).toNatClampNeg) (fun r2 o d σ =>
vp_in (i + 1) L ∧
wp_X9_next τ (xs (i + 1).toNatClampNeg) (fun r4 τ =>
wp_X9_thrown τ  (fun r5 τ =>
((r5 = r2 → (((¬ r2 = 0 → (Kn n o d σ τ)) ∧ (r2 = 0 → ((((Op.cmpValue (FP.dcmp (d (0 : Int32).toNatClampNeg) r4) .l) = 0 → (Kn n o d σ τ)) ∧ (¬ ((Op.cmpValue (FP.dcmp (d (0 : Int32).toNatClampNeg) r4) .l) = 0) → ((((Op.cmpValue (FP.dcmp (d (0 : Int32).toNatClampNeg) (d (0 : Int32).toNatClampNeg)) .l) = 0 → (False)) ∧ (¬ ((Op.cmpValue (FP.dcmp (d (0 : Int32).toNatClampNeg) (d (0 : Int32).toNatClampNeg)) .l) = 0) → (((¬ (Op.cmpValue (FP.dcmp r4 r4) .l) = 0 → (Kn n o d σ τ)) ∧ ((Op.cmpValue (FP.dcmp r4 r4) .l) = 0 → (False)))))))))))))) ∧ (¬ (r5 = r2) → (False)))
)
)
)
set_option maxHeartbeats 16000000 in
set_option maxRecDepth 100000 in
theorem law_case9 {p : Program} {l : Launch} {e : Env} {s : State} {m : MethodId} {below : List Frame} {meth : Method} {c : Code} {Q : State → Prop} {dC : Nat → ClassId} {dI : Nat → Nat → Nat} {cA : Nat → ClassId} {b1 b2 b L : Nat} {xs : Nat → Int32} {adm : Nat → Nat → Nat} {cs sl : Nat} (C : lcx p l s m c b L xs dC dI cA) (hcs : cs + 2 ≤ 601024) (hsl : sl + 14 ≤ 7293034) {a0 : Nat} (Kn : Nat → (Nat → Int64) → (Nat → UInt64) → ST → ST → Prop) {i : Int32} (hnext : ∀ (ad : Nat → Nat → Nat) (n : Nat) (o : Nat → Int64) (d : Nat → UInt64) (σ τ : ST), Kn n o d σ τ → ad 8 0 = a0 → ∀ (H : Heap) (locs : List Loc) (ls : Array Slot), va_P (dC, dI) vwCl (Wl cA b1 b2 ad n o d σ ++ Wm cA adm τ) H → va_D (fun q : Nat => s.heap.size ≤ q) (Wl cA b1 b2 ad n o d σ ++ Wm cA adm τ) → va_S (fun q : Nat => s.heap.size ≤ q) s.heap H locs → lv_has ls 10 [(0, .ref b), (1, .ref (ad 8 0)), (2, .ref (adm 9 0)), (3, .ref b1), (4, .ref b2), (5, .int i)] → W p l e room_1 s m #[Value.ref b] below meth c H locs (cs + 2) (sl + 14) Q (F0 m 1025 ls []))
    (ad : Nat → Nat → Nat) (n : Nat) (o : Nat → Int64) (d : Nat → UInt64) (σ τ : ST) (hwp : wp_case9 xs L i n o d σ τ Kn) (had : ad 8 0 = a0) (H : Heap) (locs : List Loc) (ls : Array Slot) (hP : va_P (dC, dI) vwCl (Wl cA b1 b2 ad n o d σ ++ Wm cA adm τ) H) (hD : va_D (fun q : Nat => s.heap.size ≤ q) (Wl cA b1 b2 ad n o d σ ++ Wm cA adm τ)) (hS : va_S (fun q : Nat => s.heap.size ≤ q) s.heap H locs) (hl : lv_has ls 10 [(0, .ref b), (1, .ref (ad 8 0)), (2, .ref (adm 9 0)), (3, .ref b1), (4, .ref b2), (5, .int i)]) : W p l e room_1 s m #[Value.ref b] below meth c H locs cs sl Q (F0 m 801 ls []) := by
  obtain ⟨hx, hb, hml, hown, hts, hX, hbl, hK, hT, hfl⟩ := C
  have hA : ∀ q : Nat, s.heap.size ≤ q → (fun q : Nat => s.heap.size ≤ q) q := fun _ h => h
  have hbA : ¬ (fun q : Nat => s.heap.size ≤ q) b := Nat.not_le.mpr hbl
  unfold wp_case9 at hwp
  refine lv_aload_n hx hb dL_law_801 rfl (lv_at hl 1 rfl) ?_
  refine lv_aload_n hx hb dL_law_802 rfl (lv_at hl 0 rfl) ?_
  refine lv_iload hx hb dL_law_803 (lv_at hl 5 rfl) ?_
  refine lv_iconst (v := 1) hx hb dL_law_805 (by decide) ?_
  refine lv_iadd hx hb dL_law_806 ?_
  obtain ⟨hi_1, hwp⟩ := hwp
  refine va_sld hx hb hX hbl hbA hS hi_1 dL_law_807 ?_
  refine lv_aload hx hb dL_law_808 (lv_at hl 4 rfl) ?_
  have hPc := lP hP
  have hDc := lD hD
  have hF := fA hDc hS hA
  refine vx_calli (vx_runSX (As := [.ref (ad 8 0), .int (xs (i + 1).toNatClampNeg), .ref b2]) (rest := []) ⟨hx, hb, hml, hown, hts⟩ (c_L_next l hfl dC dI cA b1 b2 ad n o d σ (xs (i + 1).toNatClampNeg) H.size _ hwp) (vx_cwSW 3 hts gL_law_L_next rfl rfl rfl (by decide +kernel) ⟨Nat.le_of_ble_eq_true rfl, Nat.le_of_ble_eq_true rfl⟩) ⟨fbX, fun U hU hW => ⟨rfl, ⟨by rw [hU], by rw [hU]; exact hPc, va_K.moved hW.alike hK, hDc.weaken (fun _ _ _ _ => trivial)⟩, hT.move hW hS hU hF⟩⟩ rfl rfl hl.1 rfl (lv_room (Nat.le_of_ble_eq_true rfl)) dL_law_810 ⟨by show _ ≤ 601024; omega, by show _ ≤ 7293034; omega⟩) hS (fun q _ h => hF q h) hF (fun q _ h => hF q h) (fun E ce q9 u t H1 locs ht hvm hpx hBX hz1 hk1 hS1 hce hcv hcl => hpx.elim) (fun r2 u t H1 locs ht hvm hwp hB hz1 hk1 hS => ?_)
  obtain ⟨o, d, σ⟩ := u
  obtain ⟨hP1, hK1, hD1⟩ := hB
  rw [ht] at hP1
  obtain ⟨hP, hD⟩ := jL hP hD hk1 hF hP1 hD1
  generalize H1 = H at hP hS ⊢
  clear hPc hDc hF hP1 hD1 hK1 hk1 hz1
  refine lv_istore (lv' := [(6, .int r2), (0, .ref b), (1, .ref (ad 8 0)), (2, .ref (adm 9 0)), (3, .ref b1), (4, .ref b2), (5, .int i)]) hx hb dL_law_813 hl (by decide) rfl (fun ls hl => ?_)
  refine lv_aload_n hx hb dL_law_815 rfl (lv_at hl 3 rfl) ?_
  refine lv_aload_n hx hb dL_law_816 rfl (lv_at hl 1 rfl) ?_
  refine lv_iload hx hb dL_law_817 (lv_at hl 6 rfl) ?_
  refine lv_iconst (v := 1) hx hb dL_law_819 (by decide) ?_
  refine lv_iadd hx hb dL_law_820 ?_
  obtain ⟨hi_3, hwp⟩ := hwp
  refine va_sld hx hb hX hbl hbA hS hi_3 dL_law_821 ?_
  have hPc := rP hP
  have hDc := rD hD
  have hF := fA hDc hS hA
  refine va_calld (va_runV (As := [.int (xs (i + 1).toNatClampNeg)]) (rest := []) ⟨hx, hb, hml, hown, hts⟩ (c_X9_next l dC dI cA adm τ (xs (i + 1).toNatClampNeg) H.size _ hwp) (cwV 1 hts gL_law_X9_next rfl rfl rfl (by decide +kernel) ⟨Nat.le_of_ble_eq_true rfl, Nat.le_of_ble_eq_true rfl⟩) ⟨fbC, va_recv hK hPc (ci := 9) (q0 := 0) rfl atModel, fun U hU hW => ⟨rfl, by rw [hU], by rw [hU]; exact hPc, va_K.moved hW.alike hK, hDc.weaken (fun _ _ _ _ => trivial)⟩⟩ rfl rfl hl.1 rfl (lv_room (Nat.le_of_ble_eq_true rfl)) dL_law_822 ⟨by show _ ≤ 601024; omega, by show _ ≤ 7293034; omega⟩) hS (fun q _ h => hF q h) hF (fun r4 τ t H1 locs ht hvm hwp hB hz1 hk1 hS => ?_)
  obtain ⟨hP1, hK1, hD1⟩ := hB
  rw [ht] at hP1
  obtain ⟨hP, hD⟩ := jR hP hD hk1 hF hP1 hD1
  have hP : va_P (dC, dI) vwCl (Wl cA b1 b2 ad n o d σ ++ Wm cA adm τ) H1 := hP
  have hD : va_D (fun q : Nat => s.heap.size ≤ q) (Wl cA b1 b2 ad n o d σ ++ Wm cA adm τ) := hD
  generalize H1 = H at hP hS ⊢
  clear hPc hDc hF hP1 hD1 hK1 hk1 hz1
  refine lv_dstore (lv' := [(7, .double r4), (6, .int r2), (0, .ref b), (1, .ref (ad 8 0)), (2, .ref (adm 9 0)), (3, .ref b1), (4, .ref b2), (5, .int i)]) hx hb dL_law_825 hl (by decide) rfl (fun ls hl => ?_)
  refine lv_aload_n hx hb dL_law_827 rfl (lv_at hl 4 rfl) ?_
  have hPc := rP hP
  have hDc := rD hD
  have hF := fA hDc hS hA
  refine va_calli (va_runV (As := []) (rest := []) ⟨hx, hb, hml, hown, hts⟩ (c_X9_thrown l dC dI cA adm τ  H.size _ hwp) (cwV 0 hts gL_law_X9_thrown rfl rfl rfl (by decide +kernel) ⟨Nat.le_of_ble_eq_true rfl, Nat.le_of_ble_eq_true rfl⟩) ⟨fbC, va_recv hK hPc (ci := 9) (q0 := 0) rfl atModel, fun U hU hW => ⟨rfl, by rw [hU], by rw [hU]; exact hPc, va_K.moved hW.alike hK, hDc.weaken (fun _ _ _ _ => trivial)⟩⟩ rfl rfl hl.1 rfl (lv_room (Nat.le_of_ble_eq_true rfl)) dL_law_828 ⟨by show _ ≤ 601024; omega, by show _ ≤ 7293034; omega⟩) hS (fun q _ h => hF q h) hF (fun r5 τ t H1 locs ht hvm hwp hB hz1 hk1 hS => ?_)
  obtain ⟨hP1, hK1, hD1⟩ := hB
  rw [ht] at hP1
  obtain ⟨hP, hD⟩ := jR hP hD hk1 hF hP1 hD1
  have hP : va_P (dC, dI) vwCl (Wl cA b1 b2 ad n o d σ ++ Wm cA adm τ) H1 := hP
  have hD : va_D (fun q : Nat => s.heap.size ≤ q) (Wl cA b1 b2 ad n o d σ ++ Wm cA adm τ) := hD
  generalize H1 = H at hP hS ⊢
  clear hPc hDc hF hP1 hD1 hK1 hk1 hz1
  refine lv_iload hx hb dL_law_831 (lv_at hl 1 rfl) ?_
  refine lv_icmp_eq (tgt := 838) hx hb dL_law_833 (by decide) (fun c_833 => ?_) (fun c_833 => ?_)
  · replace hwp := hwp.1 c_833
    refine lv_iload hx hb dL_law_838 (lv_at hl 1 rfl) ?_
    refine lv_if_ne (tgt := 875) hx hb dL_law_840 (by decide) (fun c_840 => ?_) (fun c_840 => ?_)
    · replace hwp := hwp.1 c_840
      refine lv_goto (tgt := 1025) hx hb dL_law_875 (by decide) ?_
      refine W.widen (k := cs + 2) (n := sl + 14) (by omega) (by omega) ?_
      exact hnext ad n o d σ τ hwp had _ _ _ hP hD hS (lv_sub hl [2, 3, 4, 5, 6, 7] rfl)
    · replace hwp := hwp.2 c_840
      refine lv_aload hx hb dL_law_843 (lv_at hl 6 rfl) ?_
      refine lv_iconst (v := 0) hx hb dL_law_845 (by decide) ?_
      refine va_dald (D := (dC, dI)) hx hb hK hP 1 0 (ha := rfl) (ht := rfl) (vp_in_nI (n := 0) (N := 1) (by decide) (by decide)) dL_law_846 ?_
      refine lv_dload hx hb dL_law_847 (lv_at hl 0 rfl) ?_
      refine lv_dcmp hx hb dL_law_849 ?_
      refine lv_if_eq (tgt := 875) hx hb dL_law_850 (by decide) (fun c_850 => ?_) (fun c_850 => ?_)
      · replace hwp := hwp.1 c_850
        refine lv_goto (tgt := 1025) hx hb dL_law_875 (by decide) ?_
        refine W.widen (k := cs + 2) (n := sl + 14) (by omega) (by omega) ?_
        exact hnext ad n o d σ τ hwp had _ _ _ hP hD hS (lv_sub hl [2, 3, 4, 5, 6, 7] rfl)
      · replace hwp := hwp.2 c_850
        refine lv_aload hx hb dL_law_853 (lv_at hl 6 rfl) ?_
        refine lv_iconst (v := 0) hx hb dL_law_855 (by decide) ?_
        refine va_dald (D := (dC, dI)) hx hb hK hP 1 0 (ha := rfl) (ht := rfl) (vp_in_nI (n := 0) (N := 1) (by decide) (by decide)) dL_law_856 ?_
        refine lv_aload hx hb dL_law_857 (lv_at hl 6 rfl) ?_
        refine lv_iconst (v := 0) hx hb dL_law_859 (by decide) ?_
        refine va_dald (D := (dC, dI)) hx hb hK hP 1 0 (ha := rfl) (ht := rfl) (vp_in_nI (n := 0) (N := 1) (by decide) (by decide)) dL_law_860 ?_
        refine lv_dcmp hx hb dL_law_861 ?_
        refine lv_if_eq (tgt := 873) hx hb dL_law_862 (by decide) (fun c_862 => ?_) (fun c_862 => ?_)
        · replace hwp := hwp.1 c_862
          refine lv_iconst (v := 0) hx hb dL_law_873 (by decide) ?_
          exact hwp.elim
        · replace hwp := hwp.2 c_862
          refine lv_dload hx hb dL_law_865 (lv_at hl 0 rfl) ?_
          refine lv_dload hx hb dL_law_867 (lv_at hl 0 rfl) ?_
          refine lv_dcmp hx hb dL_law_869 ?_
          refine lv_if_ne (tgt := 875) hx hb dL_law_870 (by decide) (fun c_870 => ?_) (fun c_870 => ?_)
          · replace hwp := hwp.1 c_870
            refine lv_goto (tgt := 1025) hx hb dL_law_875 (by decide) ?_
            refine W.widen (k := cs + 2) (n := sl + 14) (by omega) (by omega) ?_
            exact hnext ad n o d σ τ hwp had _ _ _ hP hD hS (lv_sub hl [2, 3, 4, 5, 6, 7] rfl)
          · replace hwp := hwp.2 c_870
            refine lv_iconst (v := 0) hx hb dL_law_873 (by decide) ?_
            exact hwp.elim
  · replace hwp := hwp.2 c_833
    refine lv_iconst (v := 0) hx hb dL_law_836 (by decide) ?_
    exact hwp.elim
def wp_case10 (xs : Nat → Int32) (L : Nat) (i : Int32) (n : Nat) (o : Nat → Int64) (d : Nat → UInt64) (σ τ : ST) (Kn : Nat → (Nat → Int64) → (Nat → UInt64) → ST → ST → Prop) : Prop := wp_X8_free n σ  (fun r1 σ =>
wp_X9_free τ  (fun r2 τ =>
(((Op.cmpValue (FP.dcmp r1 r2) .l) = 0 → (Kn n o d σ τ)) ∧ (¬ ((Op.cmpValue (FP.dcmp r1 r2) .l) = 0) → ((((Op.cmpValue (FP.dcmp r1 r1) .l) = 0 → (False)) ∧ (¬ ((Op.cmpValue (FP.dcmp r1 r1) .l) = 0) → (((¬ (Op.cmpValue (FP.dcmp r2 r2) .l) = 0 → (Kn n o d σ τ)) ∧ ((Op.cmpValue (FP.dcmp r2 r2) .l) = 0 → (False)))))))))
)
)
set_option maxHeartbeats 16000000 in
set_option maxRecDepth 100000 in
theorem law_case10 {p : Program} {l : Launch} {e : Env} {s : State} {m : MethodId} {below : List Frame} {meth : Method} {c : Code} {Q : State → Prop} {dC : Nat → ClassId} {dI : Nat → Nat → Nat} {cA : Nat → ClassId} {b1 b2 b L : Nat} {xs : Nat → Int32} {adm : Nat → Nat → Nat} {cs sl : Nat} (C : lcx p l s m c b L xs dC dI cA) (hcs : cs + 2 ≤ 601024) (hsl : sl + 14 ≤ 7293034) {a0 : Nat} (Kn : Nat → (Nat → Int64) → (Nat → UInt64) → ST → ST → Prop) {i : Int32} (hnext : ∀ (ad : Nat → Nat → Nat) (n : Nat) (o : Nat → Int64) (d : Nat → UInt64) (σ τ : ST), Kn n o d σ τ → ad 8 0 = a0 → ∀ (H : Heap) (locs : List Loc) (ls : Array Slot), va_P (dC, dI) vwCl (Wl cA b1 b2 ad n o d σ ++ Wm cA adm τ) H → va_D (fun q : Nat => s.heap.size ≤ q) (Wl cA b1 b2 ad n o d σ ++ Wm cA adm τ) → va_S (fun q : Nat => s.heap.size ≤ q) s.heap H locs → lv_has ls 10 [(0, .ref b), (1, .ref (ad 8 0)), (2, .ref (adm 9 0)), (3, .ref b1), (4, .ref b2), (5, .int i)] → W p l e room_1 s m #[Value.ref b] below meth c H locs (cs + 2) (sl + 14) Q (F0 m 1025 ls []))
    (ad : Nat → Nat → Nat) (n : Nat) (o : Nat → Int64) (d : Nat → UInt64) (σ τ : ST) (hwp : wp_case10 xs L i n o d σ τ Kn) (had : ad 8 0 = a0) (H : Heap) (locs : List Loc) (ls : Array Slot) (hP : va_P (dC, dI) vwCl (Wl cA b1 b2 ad n o d σ ++ Wm cA adm τ) H) (hD : va_D (fun q : Nat => s.heap.size ≤ q) (Wl cA b1 b2 ad n o d σ ++ Wm cA adm τ)) (hS : va_S (fun q : Nat => s.heap.size ≤ q) s.heap H locs) (hl : lv_has ls 10 [(0, .ref b), (1, .ref (ad 8 0)), (2, .ref (adm 9 0)), (3, .ref b1), (4, .ref b2), (5, .int i)]) : W p l e room_1 s m #[Value.ref b] below meth c H locs cs sl Q (F0 m 878 ls []) := by
  obtain ⟨hx, hb, hml, hown, hts, hX, hbl, hK, hT, hfl⟩ := C
  have hA : ∀ q : Nat, s.heap.size ≤ q → (fun q : Nat => s.heap.size ≤ q) q := fun _ h => h
  have hbA : ¬ (fun q : Nat => s.heap.size ≤ q) b := Nat.not_le.mpr hbl
  unfold wp_case10 at hwp
  refine lv_aload_n hx hb dL_law_878 rfl (lv_at hl 1 rfl) ?_
  have hPc := rP (w1 := Wo cA b1 b2 o d) (w2 := Wc cA ad n σ) (lP hP)
  have hDc := rD (w1 := Wo cA b1 b2 o d) (w2 := Wc cA ad n σ) (lD hD)
  have hF := fA hDc hS hA
  refine va_calld (va_runV (As := []) (rest := []) ⟨hx, hb, hml, hown, hts⟩ (c_X8_free l dC dI cA ad n σ  H.size _ hwp) (cwV 0 hts gL_law_X8_free rfl rfl rfl (by decide +kernel) ⟨Nat.le_of_ble_eq_true rfl, Nat.le_of_ble_eq_true rfl⟩) ⟨fbC, va_recv hK hPc (ci := 8) (q0 := 0) rfl atLq, fun U hU hW => ⟨rfl, by rw [hU], by rw [hU]; exact hPc, va_K.moved hW.alike hK, hDc.weaken (fun _ _ _ _ => trivial)⟩⟩ rfl rfl hl.1 rfl (lv_room (Nat.le_of_ble_eq_true rfl)) dL_law_879 ⟨by show _ ≤ 601024; omega, by show _ ≤ 7293034; omega⟩) hS (fun q _ h => hF q h) hF (fun r1 σ t H1 locs ht hvm hwp hB hz1 hk1 hS => ?_)
  obtain ⟨hP1, hK1, hD1⟩ := hB
  rw [ht] at hP1
  obtain ⟨hP, hD⟩ := jM (w1 := Wo cA b1 b2 o d) hP hD hk1 hF hP1 hD1
  have hP : va_P (dC, dI) vwCl (Wl cA b1 b2 ad n o d σ ++ Wm cA adm τ) H1 := hP
  have hD : va_D (fun q : Nat => s.heap.size ≤ q) (Wl cA b1 b2 ad n o d σ ++ Wm cA adm τ) := hD
  generalize H1 = H at hP hS ⊢
  clear hPc hDc hF hP1 hD1 hK1 hk1 hz1
  refine lv_dstore (lv' := [(6, .double r1), (0, .ref b), (1, .ref (ad 8 0)), (2, .ref (adm 9 0)), (3, .ref b1), (4, .ref b2), (5, .int i)]) hx hb dL_law_882 hl (by decide) rfl (fun ls hl => ?_)
  refine lv_aload_n hx hb dL_law_884 rfl (lv_at hl 3 rfl) ?_
  have hPc := rP hP
  have hDc := rD hD
  have hF := fA hDc hS hA
  refine va_calld (va_runV (As := []) (rest := []) ⟨hx, hb, hml, hown, hts⟩ (c_X9_free l dC dI cA adm τ  H.size _ hwp) (cwV 0 hts gL_law_X9_free rfl rfl rfl (by decide +kernel) ⟨Nat.le_of_ble_eq_true rfl, Nat.le_of_ble_eq_true rfl⟩) ⟨fbC, va_recv hK hPc (ci := 9) (q0 := 0) rfl atModel, fun U hU hW => ⟨rfl, by rw [hU], by rw [hU]; exact hPc, va_K.moved hW.alike hK, hDc.weaken (fun _ _ _ _ => trivial)⟩⟩ rfl rfl hl.1 rfl (lv_room (Nat.le_of_ble_eq_true rfl)) dL_law_885 ⟨by show _ ≤ 601024; omega, by show _ ≤ 7293034; omega⟩) hS (fun q _ h => hF q h) hF (fun r2 τ t H1 locs ht hvm hwp hB hz1 hk1 hS => ?_)
  obtain ⟨hP1, hK1, hD1⟩ := hB
  rw [ht] at hP1
  obtain ⟨hP, hD⟩ := jR hP hD hk1 hF hP1 hD1
  have hP : va_P (dC, dI) vwCl (Wl cA b1 b2 ad n o d σ ++ Wm cA adm τ) H1 := hP
  have hD : va_D (fun q : Nat => s.heap.size ≤ q) (Wl cA b1 b2 ad n o d σ ++ Wm cA adm τ) := hD
  generalize H1 = H at hP hS ⊢
  clear hPc hDc hF hP1 hD1 hK1 hk1 hz1
  refine lv_dstore (lv' := [(8, .double r2), (6, .double r1), (0, .ref b), (1, .ref (ad 8 0)), (2, .ref (adm 9 0)), (3, .ref b1), (4, .ref b2), (5, .int i)]) hx hb dL_law_888 hl (by decide) rfl (fun ls hl => ?_)
  refine lv_dload hx hb dL_law_890 (lv_at hl 1 rfl) ?_
  refine lv_dload hx hb dL_law_892 (lv_at hl 0 rfl) ?_
  refine lv_dcmp hx hb dL_law_894 ?_
  refine lv_if_eq (tgt := 916) hx hb dL_law_895 (by decide) (fun c_895 => ?_) (fun c_895 => ?_)
  · replace hwp := hwp.1 c_895
    refine lv_goto (tgt := 1025) hx hb dL_law_916 (by decide) ?_
    refine W.widen (k := cs + 2) (n := sl + 14) (by omega) (by omega) ?_
    exact hnext ad n o d σ τ hwp had _ _ _ hP hD hS (lv_sub hl [2, 3, 4, 5, 6, 7] rfl)
  · replace hwp := hwp.2 c_895
    refine lv_dload hx hb dL_law_898 (lv_at hl 1 rfl) ?_
    refine lv_dload hx hb dL_law_900 (lv_at hl 1 rfl) ?_
    refine lv_dcmp hx hb dL_law_902 ?_
    refine lv_if_eq (tgt := 914) hx hb dL_law_903 (by decide) (fun c_903 => ?_) (fun c_903 => ?_)
    · replace hwp := hwp.1 c_903
      refine lv_iconst (v := 0) hx hb dL_law_914 (by decide) ?_
      exact hwp.elim
    · replace hwp := hwp.2 c_903
      refine lv_dload hx hb dL_law_906 (lv_at hl 0 rfl) ?_
      refine lv_dload hx hb dL_law_908 (lv_at hl 0 rfl) ?_
      refine lv_dcmp hx hb dL_law_910 ?_
      refine lv_if_ne (tgt := 916) hx hb dL_law_911 (by decide) (fun c_911 => ?_) (fun c_911 => ?_)
      · replace hwp := hwp.1 c_911
        refine lv_goto (tgt := 1025) hx hb dL_law_916 (by decide) ?_
        refine W.widen (k := cs + 2) (n := sl + 14) (by omega) (by omega) ?_
        exact hnext ad n o d σ τ hwp had _ _ _ hP hD hS (lv_sub hl [2, 3, 4, 5, 6, 7] rfl)
      · replace hwp := hwp.2 c_911
        refine lv_iconst (v := 0) hx hb dL_law_914 (by decide) ?_
        exact hwp.elim
def wp_case11 (xs : Nat → Int32) (L : Nat) (i : Int32) (n : Nat) (o : Nat → Int64) (d : Nat → UInt64) (σ τ : ST) (Kn : Nat → (Nat → Int64) → (Nat → UInt64) → ST → ST → Prop) : Prop := vp_in (i + 1) L ∧
vp_in (i + 2) L ∧
wp_L_sent n o d σ (xs (i + 1).toNatClampNeg) (xs (i + 2).toNatClampNeg) (fun r3 o d σ =>
vp_in (i + 1) L ∧
vp_in (i + 2) L ∧
wp_X9_sent τ (xs (i + 1).toNatClampNeg) (xs (i + 2).toNatClampNeg) (fun r6 τ =>
wp_X9_thrown τ  (fun r7 τ =>
((r7 = r3 → (((¬ r3 = 0 → (Kn n o d σ τ)) ∧ (r3 = 0 → ((((lg_cmp (o (0 : Int32).toNatClampNeg) r6.toInt64) = 0 → (Kn n o d σ τ)) ∧ (¬ ((lg_cmp (o (0 : Int32).toNatClampNeg) r6.toInt64) = 0) → (False)))))))) ∧ (¬ (r7 = r3) → (False)))
)
)
)
set_option maxHeartbeats 16000000 in
set_option maxRecDepth 100000 in
theorem law_case11 {p : Program} {l : Launch} {e : Env} {s : State} {m : MethodId} {below : List Frame} {meth : Method} {c : Code} {Q : State → Prop} {dC : Nat → ClassId} {dI : Nat → Nat → Nat} {cA : Nat → ClassId} {b1 b2 b L : Nat} {xs : Nat → Int32} {adm : Nat → Nat → Nat} {cs sl : Nat} (C : lcx p l s m c b L xs dC dI cA) (hcs : cs + 2 ≤ 601024) (hsl : sl + 14 ≤ 7293034) {a0 : Nat} (Kn : Nat → (Nat → Int64) → (Nat → UInt64) → ST → ST → Prop) {i : Int32} (hnext : ∀ (ad : Nat → Nat → Nat) (n : Nat) (o : Nat → Int64) (d : Nat → UInt64) (σ τ : ST), Kn n o d σ τ → ad 8 0 = a0 → ∀ (H : Heap) (locs : List Loc) (ls : Array Slot), va_P (dC, dI) vwCl (Wl cA b1 b2 ad n o d σ ++ Wm cA adm τ) H → va_D (fun q : Nat => s.heap.size ≤ q) (Wl cA b1 b2 ad n o d σ ++ Wm cA adm τ) → va_S (fun q : Nat => s.heap.size ≤ q) s.heap H locs → lv_has ls 10 [(0, .ref b), (1, .ref (ad 8 0)), (2, .ref (adm 9 0)), (3, .ref b1), (4, .ref b2), (5, .int i)] → W p l e room_1 s m #[Value.ref b] below meth c H locs (cs + 2) (sl + 14) Q (F0 m 1025 ls []))
    (ad : Nat → Nat → Nat) (n : Nat) (o : Nat → Int64) (d : Nat → UInt64) (σ τ : ST) (hwp : wp_case11 xs L i n o d σ τ Kn) (had : ad 8 0 = a0) (H : Heap) (locs : List Loc) (ls : Array Slot) (hP : va_P (dC, dI) vwCl (Wl cA b1 b2 ad n o d σ ++ Wm cA adm τ) H) (hD : va_D (fun q : Nat => s.heap.size ≤ q) (Wl cA b1 b2 ad n o d σ ++ Wm cA adm τ)) (hS : va_S (fun q : Nat => s.heap.size ≤ q) s.heap H locs) (hl : lv_has ls 10 [(0, .ref b), (1, .ref (ad 8 0)), (2, .ref (adm 9 0)), (3, .ref b1), (4, .ref b2), (5, .int i)]) : W p l e room_1 s m #[Value.ref b] below meth c H locs cs sl Q (F0 m 919 ls []) := by
  obtain ⟨hx, hb, hml, hown, hts, hX, hbl, hK, hT, hfl⟩ := C
  have hA : ∀ q : Nat, s.heap.size ≤ q → (fun q : Nat => s.heap.size ≤ q) q := fun _ h => h
  have hbA : ¬ (fun q : Nat => s.heap.size ≤ q) b := Nat.not_le.mpr hbl
  unfold wp_case11 at hwp
  refine lv_aload_n hx hb dL_law_919 rfl (lv_at hl 1 rfl) ?_
  refine lv_aload_n hx hb dL_law_920 rfl (lv_at hl 0 rfl) ?_
  refine lv_iload hx hb dL_law_921 (lv_at hl 5 rfl) ?_
  refine lv_iconst (v := 1) hx hb dL_law_923 (by decide) ?_
  refine lv_iadd hx hb dL_law_924 ?_
  obtain ⟨hi_1, hwp⟩ := hwp
  refine va_sld hx hb hX hbl hbA hS hi_1 dL_law_925 ?_
  refine lv_aload_n hx hb dL_law_926 rfl (lv_at hl 0 rfl) ?_
  refine lv_iload hx hb dL_law_927 (lv_at hl 5 rfl) ?_
  refine lv_iconst (v := 2) hx hb dL_law_929 (by decide) ?_
  refine lv_iadd hx hb dL_law_930 ?_
  obtain ⟨hi_2, hwp⟩ := hwp
  refine va_sld hx hb hX hbl hbA hS hi_2 dL_law_931 ?_
  refine lv_aload_n hx hb dL_law_932 rfl (lv_at hl 3 rfl) ?_
  have hPc := lP hP
  have hDc := lD hD
  have hF := fA hDc hS hA
  refine vx_calli (vx_runSX (As := [.ref (ad 8 0), .int (xs (i + 1).toNatClampNeg), .int (xs (i + 2).toNatClampNeg), .ref b1]) (rest := []) ⟨hx, hb, hml, hown, hts⟩ (c_L_sent l hfl dC dI cA b1 b2 ad n o d σ (xs (i + 1).toNatClampNeg) (xs (i + 2).toNatClampNeg) H.size _ hwp) (vx_cwSW 4 hts gL_law_L_sent rfl rfl rfl (by decide +kernel) ⟨Nat.le_of_ble_eq_true rfl, Nat.le_of_ble_eq_true rfl⟩) ⟨fbX, fun U hU hW => ⟨rfl, ⟨by rw [hU], by rw [hU]; exact hPc, va_K.moved hW.alike hK, hDc.weaken (fun _ _ _ _ => trivial)⟩, hT.move hW hS hU hF⟩⟩ rfl rfl hl.1 rfl (lv_room (Nat.le_of_ble_eq_true rfl)) dL_law_933 ⟨by show _ ≤ 601024; omega, by show _ ≤ 7293034; omega⟩) hS (fun q _ h => hF q h) hF (fun q _ h => hF q h) (fun E ce q9 u t H1 locs ht hvm hpx hBX hz1 hk1 hS1 hce hcv hcl => hpx.elim) (fun r3 u t H1 locs ht hvm hwp hB hz1 hk1 hS => ?_)
  obtain ⟨o, d, σ⟩ := u
  obtain ⟨hP1, hK1, hD1⟩ := hB
  rw [ht] at hP1
  obtain ⟨hP, hD⟩ := jL hP hD hk1 hF hP1 hD1
  generalize H1 = H at hP hS ⊢
  clear hPc hDc hF hP1 hD1 hK1 hk1 hz1
  refine lv_istore (lv' := [(6, .int r3), (0, .ref b), (1, .ref (ad 8 0)), (2, .ref (adm 9 0)), (3, .ref b1), (4, .ref b2), (5, .int i)]) hx hb dL_law_936 hl (by decide) rfl (fun ls hl => ?_)
  refine lv_aload_n hx hb dL_law_938 rfl (lv_at hl 3 rfl) ?_
  refine lv_aload_n hx hb dL_law_939 rfl (lv_at hl 1 rfl) ?_
  refine lv_iload hx hb dL_law_940 (lv_at hl 6 rfl) ?_
  refine lv_iconst (v := 1) hx hb dL_law_942 (by decide) ?_
  refine lv_iadd hx hb dL_law_943 ?_
  obtain ⟨hi_4, hwp⟩ := hwp
  refine va_sld hx hb hX hbl hbA hS hi_4 dL_law_944 ?_
  refine lv_aload_n hx hb dL_law_945 rfl (lv_at hl 1 rfl) ?_
  refine lv_iload hx hb dL_law_946 (lv_at hl 6 rfl) ?_
  refine lv_iconst (v := 2) hx hb dL_law_948 (by decide) ?_
  refine lv_iadd hx hb dL_law_949 ?_
  obtain ⟨hi_5, hwp⟩ := hwp
  refine va_sld hx hb hX hbl hbA hS hi_5 dL_law_950 ?_
  have hPc := rP hP
  have hDc := rD hD
  have hF := fA hDc hS hA
  refine va_calli (va_runV (As := [.int (xs (i + 1).toNatClampNeg), .int (xs (i + 2).toNatClampNeg)]) (rest := []) ⟨hx, hb, hml, hown, hts⟩ (c_X9_sent l dC dI cA adm τ (xs (i + 1).toNatClampNeg) (xs (i + 2).toNatClampNeg) H.size _ hwp) (cwV 2 hts gL_law_X9_sent rfl rfl rfl (by decide +kernel) ⟨Nat.le_of_ble_eq_true rfl, Nat.le_of_ble_eq_true rfl⟩) ⟨fbC, va_recv hK hPc (ci := 9) (q0 := 0) rfl atModel, fun U hU hW => ⟨rfl, by rw [hU], by rw [hU]; exact hPc, va_K.moved hW.alike hK, hDc.weaken (fun _ _ _ _ => trivial)⟩⟩ rfl rfl hl.1 rfl (lv_room (Nat.le_of_ble_eq_true rfl)) dL_law_951 ⟨by show _ ≤ 601024; omega, by show _ ≤ 7293034; omega⟩) hS (fun q _ h => hF q h) hF (fun r6 τ t H1 locs ht hvm hwp hB hz1 hk1 hS => ?_)
  obtain ⟨hP1, hK1, hD1⟩ := hB
  rw [ht] at hP1
  obtain ⟨hP, hD⟩ := jR hP hD hk1 hF hP1 hD1
  have hP : va_P (dC, dI) vwCl (Wl cA b1 b2 ad n o d σ ++ Wm cA adm τ) H1 := hP
  have hD : va_D (fun q : Nat => s.heap.size ≤ q) (Wl cA b1 b2 ad n o d σ ++ Wm cA adm τ) := hD
  generalize H1 = H at hP hS ⊢
  clear hPc hDc hF hP1 hD1 hK1 hk1 hz1
  refine lv_istore (lv' := [(7, .int r6), (6, .int r3), (0, .ref b), (1, .ref (ad 8 0)), (2, .ref (adm 9 0)), (3, .ref b1), (4, .ref b2), (5, .int i)]) hx hb dL_law_954 hl (by decide) rfl (fun ls hl => ?_)
  refine lv_aload_n hx hb dL_law_956 rfl (lv_at hl 4 rfl) ?_
  have hPc := rP hP
  have hDc := rD hD
  have hF := fA hDc hS hA
  refine va_calli (va_runV (As := []) (rest := []) ⟨hx, hb, hml, hown, hts⟩ (c_X9_thrown l dC dI cA adm τ  H.size _ hwp) (cwV 0 hts gL_law_X9_thrown rfl rfl rfl (by decide +kernel) ⟨Nat.le_of_ble_eq_true rfl, Nat.le_of_ble_eq_true rfl⟩) ⟨fbC, va_recv hK hPc (ci := 9) (q0 := 0) rfl atModel, fun U hU hW => ⟨rfl, by rw [hU], by rw [hU]; exact hPc, va_K.moved hW.alike hK, hDc.weaken (fun _ _ _ _ => trivial)⟩⟩ rfl rfl hl.1 rfl (lv_room (Nat.le_of_ble_eq_true rfl)) dL_law_957 ⟨by show _ ≤ 601024; omega, by show _ ≤ 7293034; omega⟩) hS (fun q _ h => hF q h) hF (fun r7 τ t H1 locs ht hvm hwp hB hz1 hk1 hS => ?_)
  obtain ⟨hP1, hK1, hD1⟩ := hB
  rw [ht] at hP1
  obtain ⟨hP, hD⟩ := jR hP hD hk1 hF hP1 hD1
  have hP : va_P (dC, dI) vwCl (Wl cA b1 b2 ad n o d σ ++ Wm cA adm τ) H1 := hP
  have hD : va_D (fun q : Nat => s.heap.size ≤ q) (Wl cA b1 b2 ad n o d σ ++ Wm cA adm τ) := hD
  generalize H1 = H at hP hS ⊢
  clear hPc hDc hF hP1 hD1 hK1 hk1 hz1
  refine lv_iload hx hb dL_law_960 (lv_at hl 1 rfl) ?_
  refine lv_icmp_eq (tgt := 967) hx hb dL_law_962 (by decide) (fun c_962 => ?_) (fun c_962 => ?_)
  · replace hwp := hwp.1 c_962
    refine lv_iload hx hb dL_law_967 (lv_at hl 1 rfl) ?_
    refine lv_if_ne (tgt := 984) hx hb dL_law_969 (by decide) (fun c_969 => ?_) (fun c_969 => ?_)
    · replace hwp := hwp.1 c_969
      refine lv_goto (tgt := 1025) hx hb dL_law_984 (by decide) ?_
      refine W.widen (k := cs + 2) (n := sl + 14) (by omega) (by omega) ?_
      exact hnext ad n o d σ τ hwp had _ _ _ hP hD hS (lv_sub hl [2, 3, 4, 5, 6, 7] rfl)
    · replace hwp := hwp.2 c_969
      refine lv_aload_n hx hb dL_law_972 rfl (lv_at hl 5 rfl) ?_
      refine lv_iconst (v := 0) hx hb dL_law_973 (by decide) ?_
      refine va_lald (D := (dC, dI)) hx hb hK hP 0 5 (ha := rfl) (ht := rfl) (vp_in_nI (n := 0) (N := 1) (by decide) (by decide)) dL_law_974 ?_
      refine lv_iload hx hb dL_law_975 (lv_at hl 0 rfl) ?_
      refine lv_i2l (v := r6.toInt64) hx hb dL_law_977 rfl ?_
      refine W.lcmp hx hb dL_law_978 ?_
      refine lv_if_eq (tgt := 984) hx hb dL_law_979 (by decide) (fun c_979 => ?_) (fun c_979 => ?_)
      · replace hwp := hwp.1 c_979
        refine lv_goto (tgt := 1025) hx hb dL_law_984 (by decide) ?_
        refine W.widen (k := cs + 2) (n := sl + 14) (by omega) (by omega) ?_
        exact hnext ad n o d σ τ hwp had _ _ _ hP hD hS (lv_sub hl [2, 3, 4, 5, 6, 7] rfl)
      · replace hwp := hwp.2 c_979
        refine lv_iconst (v := 0) hx hb dL_law_982 (by decide) ?_
        exact hwp.elim
  · replace hwp := hwp.2 c_962
    refine lv_iconst (v := 0) hx hb dL_law_965 (by decide) ?_
    exact hwp.elim
def wp_case12 (xs : Nat → Int32) (L : Nat) (i : Int32) (n : Nat) (o : Nat → Int64) (d : Nat → UInt64) (σ τ : ST) (Kn : Nat → (Nat → Int64) → (Nat → UInt64) → ST → ST → Prop) : Prop := vp_in (i + 1) L ∧
wp_X8_round n σ (xs (i + 1).toNatClampNeg) (fun r2 σ =>
vp_in (i + 1) L ∧
wp_X9_round τ (xs (i + 1).toNatClampNeg) (fun r4 τ =>
((r2 = r4 → (Kn n o d σ τ)) ∧ (¬ (r2 = r4) → (False)))
)
)
set_option maxHeartbeats 16000000 in
set_option maxRecDepth 100000 in
theorem law_case12 {p : Program} {l : Launch} {e : Env} {s : State} {m : MethodId} {below : List Frame} {meth : Method} {c : Code} {Q : State → Prop} {dC : Nat → ClassId} {dI : Nat → Nat → Nat} {cA : Nat → ClassId} {b1 b2 b L : Nat} {xs : Nat → Int32} {adm : Nat → Nat → Nat} {cs sl : Nat} (C : lcx p l s m c b L xs dC dI cA) (hcs : cs + 2 ≤ 601024) (hsl : sl + 14 ≤ 7293034) {a0 : Nat} (Kn : Nat → (Nat → Int64) → (Nat → UInt64) → ST → ST → Prop) {i : Int32} (hnext : ∀ (ad : Nat → Nat → Nat) (n : Nat) (o : Nat → Int64) (d : Nat → UInt64) (σ τ : ST), Kn n o d σ τ → ad 8 0 = a0 → ∀ (H : Heap) (locs : List Loc) (ls : Array Slot), va_P (dC, dI) vwCl (Wl cA b1 b2 ad n o d σ ++ Wm cA adm τ) H → va_D (fun q : Nat => s.heap.size ≤ q) (Wl cA b1 b2 ad n o d σ ++ Wm cA adm τ) → va_S (fun q : Nat => s.heap.size ≤ q) s.heap H locs → lv_has ls 10 [(0, .ref b), (1, .ref (ad 8 0)), (2, .ref (adm 9 0)), (3, .ref b1), (4, .ref b2), (5, .int i)] → W p l e room_1 s m #[Value.ref b] below meth c H locs (cs + 2) (sl + 14) Q (F0 m 1025 ls []))
    (ad : Nat → Nat → Nat) (n : Nat) (o : Nat → Int64) (d : Nat → UInt64) (σ τ : ST) (hwp : wp_case12 xs L i n o d σ τ Kn) (had : ad 8 0 = a0) (H : Heap) (locs : List Loc) (ls : Array Slot) (hP : va_P (dC, dI) vwCl (Wl cA b1 b2 ad n o d σ ++ Wm cA adm τ) H) (hD : va_D (fun q : Nat => s.heap.size ≤ q) (Wl cA b1 b2 ad n o d σ ++ Wm cA adm τ)) (hS : va_S (fun q : Nat => s.heap.size ≤ q) s.heap H locs) (hl : lv_has ls 10 [(0, .ref b), (1, .ref (ad 8 0)), (2, .ref (adm 9 0)), (3, .ref b1), (4, .ref b2), (5, .int i)]) : W p l e room_1 s m #[Value.ref b] below meth c H locs cs sl Q (F0 m 987 ls []) := by
  obtain ⟨hx, hb, hml, hown, hts, hX, hbl, hK, hT, hfl⟩ := C
  have hA : ∀ q : Nat, s.heap.size ≤ q → (fun q : Nat => s.heap.size ≤ q) q := fun _ h => h
  have hbA : ¬ (fun q : Nat => s.heap.size ≤ q) b := Nat.not_le.mpr hbl
  unfold wp_case12 at hwp
  refine lv_aload_n hx hb dL_law_987 rfl (lv_at hl 1 rfl) ?_
  refine lv_aload_n hx hb dL_law_988 rfl (lv_at hl 0 rfl) ?_
  refine lv_iload hx hb dL_law_989 (lv_at hl 5 rfl) ?_
  refine lv_iconst (v := 1) hx hb dL_law_991 (by decide) ?_
  refine lv_iadd hx hb dL_law_992 ?_
  obtain ⟨hi_1, hwp⟩ := hwp
  refine va_sld hx hb hX hbl hbA hS hi_1 dL_law_993 ?_
  have hPc := rP (w1 := Wo cA b1 b2 o d) (w2 := Wc cA ad n σ) (lP hP)
  have hDc := rD (w1 := Wo cA b1 b2 o d) (w2 := Wc cA ad n σ) (lD hD)
  have hF := fA hDc hS hA
  refine va_calli (va_runV (As := [.int (xs (i + 1).toNatClampNeg)]) (rest := []) ⟨hx, hb, hml, hown, hts⟩ (c_X8_round l dC dI cA ad n σ (xs (i + 1).toNatClampNeg) H.size _ hwp) (cwV 1 hts gL_law_X8_round rfl rfl rfl (by decide +kernel) ⟨Nat.le_of_ble_eq_true rfl, Nat.le_of_ble_eq_true rfl⟩) ⟨fbC, va_recv hK hPc (ci := 8) (q0 := 0) rfl atLq, fun U hU hW => ⟨rfl, by rw [hU], by rw [hU]; exact hPc, va_K.moved hW.alike hK, hDc.weaken (fun _ _ _ _ => trivial)⟩⟩ rfl rfl hl.1 rfl (lv_room (Nat.le_of_ble_eq_true rfl)) dL_law_994 ⟨by show _ ≤ 601024; omega, by show _ ≤ 7293034; omega⟩) hS (fun q _ h => hF q h) hF (fun r2 σ t H1 locs ht hvm hwp hB hz1 hk1 hS => ?_)
  obtain ⟨hP1, hK1, hD1⟩ := hB
  rw [ht] at hP1
  obtain ⟨hP, hD⟩ := jM (w1 := Wo cA b1 b2 o d) hP hD hk1 hF hP1 hD1
  have hP : va_P (dC, dI) vwCl (Wl cA b1 b2 ad n o d σ ++ Wm cA adm τ) H1 := hP
  have hD : va_D (fun q : Nat => s.heap.size ≤ q) (Wl cA b1 b2 ad n o d σ ++ Wm cA adm τ) := hD
  generalize H1 = H at hP hS ⊢
  clear hPc hDc hF hP1 hD1 hK1 hk1 hz1
  refine lv_aload_n hx hb dL_law_997 rfl (lv_at hl 2 rfl) ?_
  refine lv_aload_n hx hb dL_law_998 rfl (lv_at hl 0 rfl) ?_
  refine lv_iload hx hb dL_law_999 (lv_at hl 5 rfl) ?_
  refine lv_iconst (v := 1) hx hb dL_law_1001 (by decide) ?_
  refine lv_iadd hx hb dL_law_1002 ?_
  obtain ⟨hi_3, hwp⟩ := hwp
  refine va_sld hx hb hX hbl hbA hS hi_3 dL_law_1003 ?_
  have hPc := rP hP
  have hDc := rD hD
  have hF := fA hDc hS hA
  refine va_calli (va_runV (As := [.int (xs (i + 1).toNatClampNeg)]) (rest := [.int r2]) ⟨hx, hb, hml, hown, hts⟩ (c_X9_round l dC dI cA adm τ (xs (i + 1).toNatClampNeg) H.size _ hwp) (cwV 1 hts gL_law_X9_round rfl rfl rfl (by decide +kernel) ⟨Nat.le_of_ble_eq_true rfl, Nat.le_of_ble_eq_true rfl⟩) ⟨fbC, va_recv hK hPc (ci := 9) (q0 := 0) rfl atModel, fun U hU hW => ⟨rfl, by rw [hU], by rw [hU]; exact hPc, va_K.moved hW.alike hK, hDc.weaken (fun _ _ _ _ => trivial)⟩⟩ rfl rfl hl.1 rfl (lv_room (Nat.le_of_ble_eq_true rfl)) dL_law_1004 ⟨by show _ ≤ 601024; omega, by show _ ≤ 7293034; omega⟩) hS (fun q _ h => hF q h) hF (fun r4 τ t H1 locs ht hvm hwp hB hz1 hk1 hS => ?_)
  obtain ⟨hP1, hK1, hD1⟩ := hB
  rw [ht] at hP1
  obtain ⟨hP, hD⟩ := jR hP hD hk1 hF hP1 hD1
  have hP : va_P (dC, dI) vwCl (Wl cA b1 b2 ad n o d σ ++ Wm cA adm τ) H1 := hP
  have hD : va_D (fun q : Nat => s.heap.size ≤ q) (Wl cA b1 b2 ad n o d σ ++ Wm cA adm τ) := hD
  generalize H1 = H at hP hS ⊢
  clear hPc hDc hF hP1 hD1 hK1 hk1 hz1
  refine lv_icmp_eq (tgt := 1025) hx hb dL_law_1007 (by decide) (fun c_1007 => ?_) (fun c_1007 => ?_)
  · replace hwp := hwp.1 c_1007
    refine W.widen (k := cs + 2) (n := sl + 14) (by omega) (by omega) ?_
    exact hnext ad n o d σ τ hwp had _ _ _ hP hD hS (lv_sub hl [0, 1, 2, 3, 4, 5] rfl)
  · replace hwp := hwp.2 c_1007
    refine lv_iconst (v := 0) hx hb dL_law_1010 (by decide) ?_
    exact hwp.elim
def wp_case13 (xs : Nat → Int32) (L : Nat) (i : Int32) (n : Nat) (o : Nat → Int64) (d : Nat → UInt64) (σ τ : ST) (Kn : Nat → (Nat → Int64) → (Nat → UInt64) → ST → ST → Prop) : Prop := wp_X8_clock n σ  (fun r1 σ =>
wp_X9_clock τ  (fun r2 τ =>
((r1 = r2 → (Kn n o d σ τ)) ∧ (¬ (r1 = r2) → (False)))
)
)
set_option maxHeartbeats 16000000 in
set_option maxRecDepth 100000 in
theorem law_case13 {p : Program} {l : Launch} {e : Env} {s : State} {m : MethodId} {below : List Frame} {meth : Method} {c : Code} {Q : State → Prop} {dC : Nat → ClassId} {dI : Nat → Nat → Nat} {cA : Nat → ClassId} {b1 b2 b L : Nat} {xs : Nat → Int32} {adm : Nat → Nat → Nat} {cs sl : Nat} (C : lcx p l s m c b L xs dC dI cA) (hcs : cs + 2 ≤ 601024) (hsl : sl + 14 ≤ 7293034) {a0 : Nat} (Kn : Nat → (Nat → Int64) → (Nat → UInt64) → ST → ST → Prop) {i : Int32} (hnext : ∀ (ad : Nat → Nat → Nat) (n : Nat) (o : Nat → Int64) (d : Nat → UInt64) (σ τ : ST), Kn n o d σ τ → ad 8 0 = a0 → ∀ (H : Heap) (locs : List Loc) (ls : Array Slot), va_P (dC, dI) vwCl (Wl cA b1 b2 ad n o d σ ++ Wm cA adm τ) H → va_D (fun q : Nat => s.heap.size ≤ q) (Wl cA b1 b2 ad n o d σ ++ Wm cA adm τ) → va_S (fun q : Nat => s.heap.size ≤ q) s.heap H locs → lv_has ls 10 [(0, .ref b), (1, .ref (ad 8 0)), (2, .ref (adm 9 0)), (3, .ref b1), (4, .ref b2), (5, .int i)] → W p l e room_1 s m #[Value.ref b] below meth c H locs (cs + 2) (sl + 14) Q (F0 m 1025 ls []))
    (ad : Nat → Nat → Nat) (n : Nat) (o : Nat → Int64) (d : Nat → UInt64) (σ τ : ST) (hwp : wp_case13 xs L i n o d σ τ Kn) (had : ad 8 0 = a0) (H : Heap) (locs : List Loc) (ls : Array Slot) (hP : va_P (dC, dI) vwCl (Wl cA b1 b2 ad n o d σ ++ Wm cA adm τ) H) (hD : va_D (fun q : Nat => s.heap.size ≤ q) (Wl cA b1 b2 ad n o d σ ++ Wm cA adm τ)) (hS : va_S (fun q : Nat => s.heap.size ≤ q) s.heap H locs) (hl : lv_has ls 10 [(0, .ref b), (1, .ref (ad 8 0)), (2, .ref (adm 9 0)), (3, .ref b1), (4, .ref b2), (5, .int i)]) : W p l e room_1 s m #[Value.ref b] below meth c H locs cs sl Q (F0 m 1012 ls []) := by
  obtain ⟨hx, hb, hml, hown, hts, hX, hbl, hK, hT, hfl⟩ := C
  have hA : ∀ q : Nat, s.heap.size ≤ q → (fun q : Nat => s.heap.size ≤ q) q := fun _ h => h
  have hbA : ¬ (fun q : Nat => s.heap.size ≤ q) b := Nat.not_le.mpr hbl
  unfold wp_case13 at hwp
  refine lv_aload_n hx hb dL_law_1012 rfl (lv_at hl 1 rfl) ?_
  have hPc := rP (w1 := Wo cA b1 b2 o d) (w2 := Wc cA ad n σ) (lP hP)
  have hDc := rD (w1 := Wo cA b1 b2 o d) (w2 := Wc cA ad n σ) (lD hD)
  have hF := fA hDc hS hA
  refine va_calli (va_runV (As := []) (rest := []) ⟨hx, hb, hml, hown, hts⟩ (c_X8_clock l dC dI cA ad n σ  H.size _ hwp) (cwV 0 hts gL_law_X8_clock rfl rfl rfl (by decide +kernel) ⟨Nat.le_of_ble_eq_true rfl, Nat.le_of_ble_eq_true rfl⟩) ⟨fbC, va_recv hK hPc (ci := 8) (q0 := 0) rfl atLq, fun U hU hW => ⟨rfl, by rw [hU], by rw [hU]; exact hPc, va_K.moved hW.alike hK, hDc.weaken (fun _ _ _ _ => trivial)⟩⟩ rfl rfl hl.1 rfl (lv_room (Nat.le_of_ble_eq_true rfl)) dL_law_1013 ⟨by show _ ≤ 601024; omega, by show _ ≤ 7293034; omega⟩) hS (fun q _ h => hF q h) hF (fun r1 σ t H1 locs ht hvm hwp hB hz1 hk1 hS => ?_)
  obtain ⟨hP1, hK1, hD1⟩ := hB
  rw [ht] at hP1
  obtain ⟨hP, hD⟩ := jM (w1 := Wo cA b1 b2 o d) hP hD hk1 hF hP1 hD1
  have hP : va_P (dC, dI) vwCl (Wl cA b1 b2 ad n o d σ ++ Wm cA adm τ) H1 := hP
  have hD : va_D (fun q : Nat => s.heap.size ≤ q) (Wl cA b1 b2 ad n o d σ ++ Wm cA adm τ) := hD
  generalize H1 = H at hP hS ⊢
  clear hPc hDc hF hP1 hD1 hK1 hk1 hz1
  refine lv_aload_n hx hb dL_law_1016 rfl (lv_at hl 2 rfl) ?_
  have hPc := rP hP
  have hDc := rD hD
  have hF := fA hDc hS hA
  refine va_calli (va_runV (As := []) (rest := [.int r1]) ⟨hx, hb, hml, hown, hts⟩ (c_X9_clock l dC dI cA adm τ  H.size _ hwp) (cwV 0 hts gL_law_X9_clock rfl rfl rfl (by decide +kernel) ⟨Nat.le_of_ble_eq_true rfl, Nat.le_of_ble_eq_true rfl⟩) ⟨fbC, va_recv hK hPc (ci := 9) (q0 := 0) rfl atModel, fun U hU hW => ⟨rfl, by rw [hU], by rw [hU]; exact hPc, va_K.moved hW.alike hK, hDc.weaken (fun _ _ _ _ => trivial)⟩⟩ rfl rfl hl.1 rfl (lv_room (Nat.le_of_ble_eq_true rfl)) dL_law_1017 ⟨by show _ ≤ 601024; omega, by show _ ≤ 7293034; omega⟩) hS (fun q _ h => hF q h) hF (fun r2 τ t H1 locs ht hvm hwp hB hz1 hk1 hS => ?_)
  obtain ⟨hP1, hK1, hD1⟩ := hB
  rw [ht] at hP1
  obtain ⟨hP, hD⟩ := jR hP hD hk1 hF hP1 hD1
  have hP : va_P (dC, dI) vwCl (Wl cA b1 b2 ad n o d σ ++ Wm cA adm τ) H1 := hP
  have hD : va_D (fun q : Nat => s.heap.size ≤ q) (Wl cA b1 b2 ad n o d σ ++ Wm cA adm τ) := hD
  generalize H1 = H at hP hS ⊢
  clear hPc hDc hF hP1 hD1 hK1 hk1 hz1
  refine lv_icmp_eq (tgt := 1025) hx hb dL_law_1020 (by decide) (fun c_1020 => ?_) (fun c_1020 => ?_)
  · replace hwp := hwp.1 c_1020
    refine W.widen (k := cs + 2) (n := sl + 14) (by omega) (by omega) ?_
    exact hnext ad n o d σ τ hwp had _ _ _ hP hD hS (lv_sub hl [0, 1, 2, 3, 4, 5] rfl)
  · replace hwp := hwp.2 c_1020
    refine lv_iconst (v := 0) hx hb dL_law_1023 (by decide) ?_
    exact hwp.elim
