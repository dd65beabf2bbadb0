/-- no cell holds the packet n yet -/
def freshP (n : Nat) (σ : ST) : Prop := (∀ j, j < 6 → sR σ 96 j ≠ some n ∧ sR σ 97 j ≠ some n) ∧ (∀ k, sR σ 64 k ≠ some n) ∧ (∀ k, k < n → sR σ 87 k ≠ some n)
/-- the state with a packet more, as the machine makes it -/
def npk (σ : ST) (n : Nat) : ST := upR (upI (upI (upI (upI (upI (upR (upI σ 80 n 0) 81 n none) 82 n 0) 83 n 0) 84 n 0) 85 n 0) 86 n 0) 87 n none
theorem fam_push (n : Nat) (a : Nat → Nat) (c : Nat → va_E) : fam (n + 1) a c = fam n a c ++ [(a n, c n)] := by
  unfold fam
  rw [List.range_succ, List.map_append]
  rfl
theorem fam_eq2 {n : Nat} {a a' : Nat → Nat} {c c' : Nat → va_E} (ha : ∀ i, i < n → a i = a' i) (h : ∀ i, i < n → c i = c' i) : fam n a c = fam n a' c' := by
  unfold fam
  apply List.map_congr_left
  intro i hi
  rw [h i (List.mem_range.mp hi), ha i (List.mem_range.mp hi)]
theorem re_fresh {ad : Nat → Nat → Nat} {n q : Nat} {o : Option Nat} (h : o ≠ some n) : va_re (up2 ad 5 n q 5) o = va_re (ad 5) o := by
  cases o with
  | none => rfl
  | some b =>
    have hb : b ≠ n := fun z => h (by rw [z])
    show Value.ref (up2 ad 5 n q 5 b) = Value.ref (ad 5 b)
    rw [up2_ap, if_neg (fun z => hb z.2)]
theorem map_fresh {ad : Nat → Nat → Nat} {n q : Nat} {o : Option Nat} (h : o ≠ some n) : o.map (up2 ad 5 n q 5) = o.map (ad 5) := by
  cases o with
  | none => rfl
  | some b =>
    have hb : b ≠ n := fun z => h (by rw [z])
    show some (up2 ad 5 n q 5 b) = some (ad 5 b)
    rw [up2_ap, if_neg (fun z => hb z.2)]
theorem npk_R (σ : ST) (n f k : Nat) (hf : f ≠ 81) (hg : f ≠ 87) : sR (npk σ n) f k = sR σ f k := by
  unfold npk
  rw [sR_upR, if_neg (fun z => hg z.1)]
  simp only [sR_upI]
  rw [sR_upR, if_neg (fun z => hf z.1)]
  simp only [sR_upI]
theorem npk_R81 (σ : ST) (n k : Nat) (h : k ≠ n) : sR (npk σ n) 81 k = sR σ 81 k := by
  unfold npk
  rw [sR_upR, if_neg (fun z => absurd z.1 (by decide))]
  simp only [sR_upI]
  rw [sR_upR, if_neg (fun z => h z.2)]
  simp only [sR_upI]
theorem npk_R87 (σ : ST) (n k : Nat) (h : k ≠ n) : sR (npk σ n) 87 k = sR σ 87 k := by
  unfold npk
  rw [sR_upR, if_neg (fun z => h z.2)]
  simp only [sR_upI]
  rw [sR_upR, if_neg (fun z => h z.2)]
  simp only [sR_upI]
theorem npk_I (σ : ST) (n f k : Nat) (h : k ≠ n) : sI (npk σ n) f k = sI σ f k := by
  unfold npk
  simp only [sI_upR, sI_upI, h, and_false, if_false]
theorem npk_If (σ : ST) (n f k : Nat) (h : f < 80 ∨ 86 < f) : sI (npk σ n) f k = sI σ f k := by
  unfold npk
  simp only [sI_upR, sI_upI]
  rw [if_neg (by omega), if_neg (by omega), if_neg (by omega), if_neg (by omega), if_neg (by omega), if_neg (by omega)]
theorem npk_D (σ : ST) (n f k : Nat) : sD (npk σ n) f k = sD σ f k := rfl
theorem wc_new {cA : Nat → ClassId} {ad : Nat → Nat → Nat} {n : Nat} {σ : ST} {q : Nat} (hf : freshP n σ) : Wc cA ad n σ ++ [(q, .inr (5, [.int 0, .null, .int 0, .int 0, .int 0, .int 0, .int 0, .null]))] = Wc cA (up2 ad 5 n q) (n + 1) (npk σ n) := by
  have h11 : cr11 cA (up2 ad 5 n q) (npk σ n) = cr11 cA ad σ := by
    unfold cr11
    have e : (fun k => (sR (npk σ n) 64 k).map (up2 ad 5 n q 5)) = fun k => (sR σ 64 k).map (ad 5) := by
      funext k
      rw [npk_R σ n 64 k (by decide) (by decide), map_fresh (hf.2.1 k)]
    rw [e]
  have hX : wcX cA (up2 ad 5 n q) (npk σ n) = wcX cA ad σ := by
    unfold wcX
    rw [h11]
    rfl
  have hQ : fam 6 (up2 ad 5 n q 6) (ceQueue (up2 ad 5 n q) (npk σ n)) = fam 6 (ad 6) (ceQueue ad σ) := fam_eq2 (fun i _ => rfl) (fun i hi => by
    show Sum.inr (6, flQueue (up2 ad 5 n q) (npk σ n) i) = Sum.inr (6, flQueue ad σ i)
    refine congrArg _ (congrArg _ ?_)
    show ([va_re (up2 ad 5 n q 5) (sR (npk σ n) 96 i), va_re (up2 ad 5 n q 5) (sR (npk σ n) 97 i), .int (sI (npk σ n) 98 i), .int (sI (npk σ n) 99 i)] : List Value) = _
    rw [npk_R σ n 96 i (by decide) (by decide), npk_R σ n 97 i (by decide) (by decide), re_fresh (hf.1 i hi).1, re_fresh (hf.1 i hi).2]
    rfl)
  have hP : fam (n + 1) (up2 ad 5 n q 5) (cePacket (up2 ad 5 n q) (npk σ n)) = fam n (ad 5) (cePacket ad σ) ++ [(q, .inr (5, [.int 0, .null, .int 0, .int 0, .int 0, .int 0, .int 0, .null]))] := by
    rw [fam_push]
    refine congr (congrArg _ ?_) ?_
    · refine fam_eq2 (fun i hi => ?_) (fun i hi => ?_)
      · rw [up2_ap, if_neg (by omega)]
      · show Sum.inr (5, flPacket (up2 ad 5 n q) (npk σ n) i) = Sum.inr (5, flPacket ad σ i)
        refine congrArg _ (congrArg _ ?_)
        have hi' : i ≠ n := by omega
        show ([.int (sI (npk σ n) 80 i), va_re (up2 ad 5 n q 2) (sR (npk σ n) 81 i), .int (sI (npk σ n) 82 i), .int (sI (npk σ n) 83 i), .int (sI (npk σ n) 84 i), .int (sI (npk σ n) 85 i), .int (sI (npk σ n) 86 i), va_re (up2 ad 5 n q 5) (sR (npk σ n) 87 i)] : List Value) = _
        rw [npk_I σ n 80 i hi', npk_I σ n 82 i hi', npk_I σ n 83 i hi', npk_I σ n 84 i hi', npk_I σ n 85 i hi', npk_I σ n 86 i hi', npk_R81 σ n i hi', npk_R87 σ n i hi', re_fresh (hf.2.2 i hi)]
        rfl
    · have e1 : up2 ad 5 n q 5 n = q := by rw [up2_ap, if_pos ⟨rfl, rfl⟩]
      rw [e1]
      refine congrArg (fun z => [(q, z)]) ?_
      show Sum.inr (5, flPacket (up2 ad 5 n q) (npk σ n) n) = _
      refine congrArg _ (congrArg _ ?_)
      show ([.int (sI (npk σ n) 80 n), va_re (up2 ad 5 n q 2) (sR (npk σ n) 81 n), .int (sI (npk σ n) 82 n), .int (sI (npk σ n) 83 n), .int (sI (npk σ n) 84 n), .int (sI (npk σ n) 85 n), .int (sI (npk σ n) 86 n), va_re (up2 ad 5 n q 5) (sR (npk σ n) 87 n)] : List Value) = _
      have a0 : sI (npk σ n) 80 n = 0 := by unfold npk; simp [sI_upR, sI_upI]
      have a1 : sR (npk σ n) 81 n = none := by unfold npk; simp [sR_upR, sR_upI]
      have a2 : sI (npk σ n) 82 n = 0 := by unfold npk; simp [sI_upR, sI_upI]
      have a3 : sI (npk σ n) 83 n = 0 := by unfold npk; simp [sI_upR, sI_upI]
      have a4 : sI (npk σ n) 84 n = 0 := by unfold npk; simp [sI_upR, sI_upI]
      have a5 : sI (npk σ n) 85 n = 0 := by unfold npk; simp [sI_upR, sI_upI]
      have a6 : sI (npk σ n) 86 n = 0 := by unfold npk; simp [sI_upR, sI_upI]
      have a7 : sR (npk σ n) 87 n = none := by unfold npk; simp [sR_upR, sR_upI]
      rw [a0, a1, a2, a3, a4, a5, a6, a7]
      rfl
  unfold Wc
  rw [hX, hQ, hP]
  simp only [List.append_assoc]
  rfl
section PF
variable {p : Program} {l : Launch} {e : Env} {R : Room} {s : State} {m : MethodId} {args : Array Value} {below : List Frame} {meth : Method} {c : Code} {H : Heap} {locs : List Loc} {cells slots : Nat} {Q : State → Prop} {cc : ByteArray} {pc : Nat} {ls : Array Slot} {rest : List Value} {D : va_G} {cl : List vw_C} {A : Nat → Prop} {a : Nat} {tys : List (ClassId × FieldType)} {ws ws' : va_W} {H0 : Heap}
theorem st_putF (hexec : p.tables.exec = Jvm.exec) (hb : c.code = cc) {own ref C : String} {T : u_T} {N ci index : Nat} {Ts : List Cond} (hts : ∀ w ∈ Ts, w.before args s = true) (hin : ∀ w ∈ u_ws C T N, w ∈ Ts) (ty0 : Nat → FieldType) (hty : ∀ k, k < N → parseFieldDescriptor (T k).2.2.1 = some (ty0 k)) (hnm : ∀ a, a < N → ∀ b, b < N → a ≠ b → (T a).2.1 ≠ (T b).2.1) (hown : s.vm.findClass own = some m.cls) (hK : va_K D cl tys s) (hP : va_P D cl ws H) (hD : va_D A ws) (hS0 : va_S A H0 H locs) (q0 : Nat) {fs : List Value} (he : ws[q0]? = some (a, .inr (ci, fs))) (hc : cl[ci]? = some (C, T, N)) (k : Nat) (hk : k < N) (hlink : (Cond.fieldLink own index ref (T k).2.1 (T k).2.2.1).before args s = true) (hsame : ∀ x, s.fieldFound? (T k).1 (T k).2.1 (T k).2.2.1 = some x → s.fieldFound? ref (T k).2.1 (T k).2.2.1 = some x) (hfin : (T k).2.2.2 = true) (hin2 : meth.name = "<init>") (hdecl : (T k).1 = own) {ty : FieldType} {v : Value} (hd : parseFieldDescriptor (T k).2.2.1 = some ty) (hn : narrow ty v = v) (hfit : fits ty v = true) (hl : k < fs.length)
    (hdg : decode cc pc = .ok (.putfield index, 3)) (hset : ws.set q0 (a, .inr (ci, fs.set k v)) = ws') (kk : ∀ (H1 : Heap) (locs1 : List Loc), va_P D cl ws' H1 → va_D A ws' → va_S A H0 H1 locs1 → W p l e R s m args below meth c H1 locs1 cells slots Q (F0 m (pc + 3) ls rest)) : W p l e R s m args below meth c H locs cells slots Q (F0 m pc ls (v :: .ref a :: rest)) :=
  va_putF hexec hb hts hin ty0 hty hnm hown hK hP hD hS0 q0 he hc k hk hlink hsame hfin hin2 hdecl hd hn hfit hl hdg (fun H1 l1 hP1 hD1 hS1 => kk H1 l1 (hset ▸ hP1) (hset ▸ hD1) hS1)
end PF
