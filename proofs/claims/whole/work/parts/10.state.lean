abbrev ST : Type := (Nat → Nat → Int32) × (Nat → Nat → UInt64) × (Nat → Nat → Option Nat)
def up2 {α : Type} (f : Nat → Nat → α) (a b : Nat) (v : α) : Nat → Nat → α := fun x y => bif Nat.beq x a && Nat.beq y b then v else f x y
theorem up2_ap {α : Type} (f : Nat → Nat → α) (a b : Nat) (v : α) (x y : Nat) : up2 f a b v x y = if x = a ∧ y = b then v else f x y := by
  unfold up2
  by_cases h : x = a
  · by_cases h2 : y = b
    · subst h; subst h2; simp
    · have : Nat.beq y b = false := by
        cases hh : Nat.beq y b with
        | false => rfl
        | true => exact absurd (Nat.eq_of_beq_eq_true hh) h2
      simp [this, h2]
  · have : Nat.beq x a = false := by
      cases hh : Nat.beq x a with
      | false => rfl
      | true => exact absurd (Nat.eq_of_beq_eq_true hh) h
    simp [this, h]
def sI (σ : ST) (f j : Nat) : Int32 := σ.1 f j
def sD (σ : ST) (f j : Nat) : UInt64 := σ.2.1 f j
def sR (σ : ST) (f j : Nat) : Option Nat := σ.2.2 f j
def upI (σ : ST) (f j : Nat) (v : Int32) : ST := (up2 σ.1 f j v, σ.2.1, σ.2.2)
def upD (σ : ST) (f j : Nat) (v : UInt64) : ST := (σ.1, up2 σ.2.1 f j v, σ.2.2)
def upR (σ : ST) (f j : Nat) (v : Option Nat) : ST := (σ.1, σ.2.1, up2 σ.2.2 f j v)
theorem sI_upI (σ : ST) (f j : Nat) (v : Int32) (x y : Nat) : sI (upI σ f j v) x y = if x = f ∧ y = j then v else sI σ x y := up2_ap _ _ _ _ _ _
theorem sI_upD (σ : ST) (f j : Nat) (v : UInt64) (x y : Nat) : sI (upD σ f j v) x y = sI σ x y := rfl
theorem sI_upR (σ : ST) (f j : Nat) (v : Option Nat) (x y : Nat) : sI (upR σ f j v) x y = sI σ x y := rfl
theorem sD_upI (σ : ST) (f j : Nat) (v : Int32) (x y : Nat) : sD (upI σ f j v) x y = sD σ x y := rfl
theorem sD_upD (σ : ST) (f j : Nat) (v : UInt64) (x y : Nat) : sD (upD σ f j v) x y = if x = f ∧ y = j then v else sD σ x y := up2_ap _ _ _ _ _ _
theorem sD_upR (σ : ST) (f j : Nat) (v : Option Nat) (x y : Nat) : sD (upR σ f j v) x y = sD σ x y := rfl
theorem sR_upI (σ : ST) (f j : Nat) (v : Int32) (x y : Nat) : sR (upI σ f j v) x y = sR σ x y := rfl
theorem sR_upD (σ : ST) (f j : Nat) (v : UInt64) (x y : Nat) : sR (upD σ f j v) x y = sR σ x y := rfl
theorem sR_upR (σ : ST) (f j : Nat) (v : Option Nat) (x y : Nat) : sR (upR σ f j v) x y = if x = f ∧ y = j then v else sR σ x y := up2_ap _ _ _ _ _ _
theorem sI_s (σ : ST) (f j : Nat) (v : Int32) : sI (upI σ f j v) f j = v := by rw [sI_upI, if_pos ⟨rfl, rfl⟩]
theorem sD_s (σ : ST) (f j : Nat) (v : UInt64) : sD (upD σ f j v) f j = v := by rw [sD_upD, if_pos ⟨rfl, rfl⟩]
theorem sR_s (σ : ST) (f j : Nat) (v : Option Nat) : sR (upR σ f j v) f j = v := by rw [sR_upR, if_pos ⟨rfl, rfl⟩]
theorem sI_n {σ : ST} {f j i : Nat} (v : Int32) (h : i ≠ j) : sI (upI σ f j v) f i = sI σ f i := by rw [sI_upI, if_neg (fun q => h q.2)]
theorem sD_n {σ : ST} {f j i : Nat} (v : UInt64) (h : i ≠ j) : sD (upD σ f j v) f i = sD σ f i := by rw [sD_upD, if_neg (fun q => h q.2)]
theorem sR_n {σ : ST} {f j i : Nat} (v : Option Nat) (h : i ≠ j) : sR (upR σ f j v) f i = sR σ f i := by rw [sR_upR, if_neg (fun q => h q.2)]
def fam (n : Nat) (a : Nat → Nat) (c : Nat → va_E) : va_W := (List.range n).map (fun j => (a j, c j))
theorem fam_len (n : Nat) (a : Nat → Nat) (c : Nat → va_E) : (fam n a c).length = n := by simp [fam]
theorem fam_at {n : Nat} {a : Nat → Nat} {c : Nat → va_E} {j : Nat} (h : j < n) : (fam n a c)[j]? = some (a j, c j) := by simp [fam, h]
theorem fam_eq {n : Nat} {a : Nat → Nat} {c c' : Nat → va_E} (h : ∀ i, i < n → c i = c' i) : fam n a c = fam n a c' := by
  unfold fam
  apply List.map_congr_left
  intro i hi
  rw [h i (List.mem_range.mp hi)]
theorem fam_set {n : Nat} {a : Nat → Nat} {c : Nat → va_E} {j : Nat} (h : j < n) (e : va_E) : (fam n a c).set j (a j, e) = fam n a (va_up c j e) := by
  apply List.ext_getElem?
  intro i
  by_cases hi : i < n
  · rw [fam_at hi]
    by_cases q : i = j
    · subst q
      rw [List.getElem?_set_self (by rw [fam_len]; exact hi), va_up_self]
    · rw [List.getElem?_set_ne (Ne.symm q), fam_at hi, va_up_ne _ _ q]
  · rw [List.getElem?_eq_none (by rw [List.length_set, fam_len]; omega), List.getElem?_eq_none (by rw [fam_len]; omega)]
theorem ap_r {α : Type} (l1 l2 : List α) (k i : Nat) (h : l1.length = k) : (l1 ++ l2)[k + i]? = l2[i]? := by
  rw [List.getElem?_append_right (by omega)]
  congr 1
  omega
theorem ap_l {α : Type} (l1 l2 : List α) (k i : Nat) (h : l1.length = k) (hi : i < k) : (l1 ++ l2)[i]? = l1[i]? := List.getElem?_append_left (by omega)
theorem ap_sr {α : Type} (l1 l2 : List α) (k i : Nat) (x : α) (h : l1.length = k) : (l1 ++ l2).set (k + i) x = l1 ++ l2.set i x := by
  rw [List.set_append_right _ _ (by omega)]
  congr 2
  omega
theorem ap_sl {α : Type} (l1 l2 : List α) (k i : Nat) (x : α) (h : l1.length = k) (hi : i < k) : (l1 ++ l2).set i x = l1.set i x ++ l2 := List.set_append_left _ _ (by omega)
def flCoins (ad : Nat → Nat → Nat) (σ : ST) (j : Nat) : List Value := [.ref (ad 10 0), .int (sI σ 1 j), .int (sI σ 2 j)]
def ceCoins (ad : Nat → Nat → Nat) (σ : ST) (j : Nat) : va_E := .inr (0, flCoins ad σ j)
def flDelay (ad : Nat → Nat → Nat) (σ : ST) (j : Nat) : List Value := [.double (sD σ 16 j), .double (sD σ 17 j), .int (sI σ 18 j), .double (sD σ 19 j), .int (sI σ 20 j), .double (sD σ 21 j), .int (sI σ 22 j), .int (sI σ 23 j)]
def ceDelay (ad : Nat → Nat → Nat) (σ : ST) (j : Nat) : va_E := .inr (1, flDelay ad σ j)
def flFlow (ad : Nat → Nat → Nat) (σ : ST) (j : Nat) : List Value := [.int (sI σ 32 j), .ref (ad 6 j), .ref (ad 3 j), .ref (ad 1 j), .int (sI σ 36 j), .int (sI σ 37 j), .int (sI σ 38 j), va_re (ad 2) (sR σ 39 j), .int (sI σ 40 j), .int (sI σ 41 j), .int (sI σ 42 j), .int (sI σ 43 j), .int (sI σ 44 j), .int (sI σ 45 j), .int (sI σ 46 j)]
def ceFlow (ad : Nat → Nat → Nat) (σ : ST) (j : Nat) : va_E := .inr (2, flFlow ad σ j)
def flMean (ad : Nat → Nat → Nat) (σ : ST) (j : Nat) : List Value := [.double (sD σ 48 j), .double (sD σ 49 j), .double (sD σ 50 j), .double (sD σ 51 j), .double (sD σ 52 j), .int (sI σ 53 j), .int (sI σ 54 j)]
def ceMean (ad : Nat → Nat → Nat) (σ : ST) (j : Nat) : va_E := .inr (3, flMean ad σ j)
def flOutlog (ad : Nat → Nat → Nat) (σ : ST) (j : Nat) : List Value := [.ref (ad 11 0), .int (sI σ 65 j)]
def ceOutlog (ad : Nat → Nat → Nat) (σ : ST) (j : Nat) : va_E := .inr (4, flOutlog ad σ j)
def flPacket (ad : Nat → Nat → Nat) (σ : ST) (j : Nat) : List Value := [.int (sI σ 80 j), va_re (ad 2) (sR σ 81 j), .int (sI σ 82 j), .int (sI σ 83 j), .int (sI σ 84 j), .int (sI σ 85 j), .int (sI σ 86 j), va_re (ad 5) (sR σ 87 j)]
def cePacket (ad : Nat → Nat → Nat) (σ : ST) (j : Nat) : va_E := .inr (5, flPacket ad σ j)
def flQueue (ad : Nat → Nat → Nat) (σ : ST) (j : Nat) : List Value := [va_re (ad 5) (sR σ 96 j), va_re (ad 5) (sR σ 97 j), .int (sI σ 98 j), .int (sI σ 99 j)]
def ceQueue (ad : Nat → Nat → Nat) (σ : ST) (j : Nat) : va_E := .inr (6, flQueue ad σ j)
def flTurns (ad : Nat → Nat → Nat) (σ : ST) (j : Nat) : List Value := [va_re (ad 2) (sR σ 112 j), va_re (ad 2) (sR σ 113 j), .int (sI σ 114 j)]
def ceTurns (ad : Nat → Nat → Nat) (σ : ST) (j : Nat) : va_E := .inr (7, flTurns ad σ j)
def flLq (ad : Nat → Nat → Nat) (σ : ST) (j : Nat) : List Value := [.ref (ad 12 0), .ref (ad 7 0), .ref (ad 0 0), .ref (ad 4 0), .int (sI σ 132 j), .int (sI σ 133 j), .int (sI σ 134 j), .int (sI σ 135 j), .int (sI σ 136 j), .double (sD σ 137 j), .double (sD σ 138 j)]
def ceLq (ad : Nat → Nat → Nat) (σ : ST) (j : Nat) : va_E := .inr (8, flLq ad σ j)
def cr10 (cA : Nat → ClassId) (σ : ST) : va_E := .inl (cA 0, 64, .inr (.inr (.inr (.inl (fun k => sD σ 0 k)))))
def cr11 (cA : Nat → ClassId) (ad : Nat → Nat → Nat) (σ : ST) : va_E := .inl (cA 4, 32, .inr (.inr (.inr (.inr (fun k => (sR σ 64 k).map (ad 5))))))
def cr12 (cA : Nat → ClassId) (ad : Nat → Nat → Nat) : va_E := .inl (cA 3, 6, .inr (.inr (.inr (.inr (fun k => some (ad 2 k))))))
def wcX (cA : Nat → ClassId) (ad : Nat → Nat → Nat) (σ : ST) : va_W := [(ad 8 0, ceLq ad σ 0), (ad 12 0, cr12 cA ad), (ad 7 0, ceTurns ad σ 0), (ad 0 0, ceCoins ad σ 0), (ad 10 0, cr10 cA σ), (ad 4 0, ceOutlog ad σ 0), (ad 11 0, cr11 cA ad σ)]
def Wc (cA : Nat → ClassId) (ad : Nat → Nat → Nat) (n : Nat) (σ : ST) : va_W := wcX cA ad σ ++ (fam 6 (ad 2) (ceFlow ad σ) ++ (fam 6 (ad 6) (ceQueue ad σ) ++ (fam 6 (ad 3) (ceMean ad σ) ++ (fam 6 (ad 1) (ceDelay ad σ) ++ fam n (ad 5) (cePacket ad σ)))))
theorem atLq {cA : Nat → ClassId} {ad : Nat → Nat → Nat} {n : Nat} {σ : ST} : (Wc cA ad n σ)[0]? = some (ad 8 0, ceLq ad σ 0) := rfl
theorem atf12 {cA : Nat → ClassId} {ad : Nat → Nat → Nat} {n : Nat} {σ : ST} : (Wc cA ad n σ)[1]? = some (ad 12 0, cr12 cA ad) := rfl
theorem atTurns {cA : Nat → ClassId} {ad : Nat → Nat → Nat} {n : Nat} {σ : ST} : (Wc cA ad n σ)[2]? = some (ad 7 0, ceTurns ad σ 0) := rfl
theorem atCoins {cA : Nat → ClassId} {ad : Nat → Nat → Nat} {n : Nat} {σ : ST} : (Wc cA ad n σ)[3]? = some (ad 0 0, ceCoins ad σ 0) := rfl
theorem atr10 {cA : Nat → ClassId} {ad : Nat → Nat → Nat} {n : Nat} {σ : ST} : (Wc cA ad n σ)[4]? = some (ad 10 0, cr10 cA σ) := rfl
theorem atOutlog {cA : Nat → ClassId} {ad : Nat → Nat → Nat} {n : Nat} {σ : ST} : (Wc cA ad n σ)[5]? = some (ad 4 0, ceOutlog ad σ 0) := rfl
theorem atr11 {cA : Nat → ClassId} {ad : Nat → Nat → Nat} {n : Nat} {σ : ST} : (Wc cA ad n σ)[6]? = some (ad 11 0, cr11 cA ad σ) := rfl
theorem atFlow {cA : Nat → ClassId} {ad : Nat → Nat → Nat} {n : Nat} {σ : ST} {j : Nat} (h : j < 6) : (Wc cA ad n σ)[7 + j]? = some (ad 2 j, ceFlow ad σ j) := by
  unfold Wc
  refine (ap_r _ _ 7 _ rfl).trans ?_
  refine (ap_l _ _ 6 _ (fam_len _ _ _) h).trans ?_
  exact fam_at h
theorem atQueue {cA : Nat → ClassId} {ad : Nat → Nat → Nat} {n : Nat} {σ : ST} {j : Nat} (h : j < 6) : (Wc cA ad n σ)[13 + j]? = some (ad 6 j, ceQueue ad σ j) := by
  unfold Wc
  rw [show 13 + j = 7 + (6 + j) from by omega]
  refine (ap_r _ _ 7 _ rfl).trans ?_
  refine (ap_r _ _ 6 _ (fam_len _ _ _)).trans ?_
  refine (ap_l _ _ 6 _ (fam_len _ _ _) h).trans ?_
  exact fam_at h
theorem atMean {cA : Nat → ClassId} {ad : Nat → Nat → Nat} {n : Nat} {σ : ST} {j : Nat} (h : j < 6) : (Wc cA ad n σ)[19 + j]? = some (ad 3 j, ceMean ad σ j) := by
  unfold Wc
  rw [show 19 + j = 7 + (12 + j) from by omega]
  refine (ap_r _ _ 7 _ rfl).trans ?_
  rw [show 12 + j = 6 + (6 + j) from by omega]
  refine (ap_r _ _ 6 _ (fam_len _ _ _)).trans ?_
  refine (ap_r _ _ 6 _ (fam_len _ _ _)).trans ?_
  refine (ap_l _ _ 6 _ (fam_len _ _ _) h).trans ?_
  exact fam_at h
theorem atDelay {cA : Nat → ClassId} {ad : Nat → Nat → Nat} {n : Nat} {σ : ST} {j : Nat} (h : j < 6) : (Wc cA ad n σ)[25 + j]? = some (ad 1 j, ceDelay ad σ j) := by
  unfold Wc
  rw [show 25 + j = 7 + (18 + j) from by omega]
  refine (ap_r _ _ 7 _ rfl).trans ?_
  rw [show 18 + j = 6 + (12 + j) from by omega]
  refine (ap_r _ _ 6 _ (fam_len _ _ _)).trans ?_
  rw [show 12 + j = 6 + (6 + j) from by omega]
  refine (ap_r _ _ 6 _ (fam_len _ _ _)).trans ?_
  refine (ap_r _ _ 6 _ (fam_len _ _ _)).trans ?_
  refine (ap_l _ _ 6 _ (fam_len _ _ _) h).trans ?_
  exact fam_at h
theorem atPacket {cA : Nat → ClassId} {ad : Nat → Nat → Nat} {n : Nat} {σ : ST} {j : Nat} (h : j < n) : (Wc cA ad n σ)[31 + j]? = some (ad 5 j, cePacket ad σ j) := by
  unfold Wc
  rw [show 31 + j = 7 + (24 + j) from by omega]
  refine (ap_r _ _ 7 _ rfl).trans ?_
  rw [show 24 + j = 6 + (18 + j) from by omega]
  refine (ap_r _ _ 6 _ (fam_len _ _ _)).trans ?_
  rw [show 18 + j = 6 + (12 + j) from by omega]
  refine (ap_r _ _ 6 _ (fam_len _ _ _)).trans ?_
  rw [show 12 + j = 6 + (6 + j) from by omega]
  refine (ap_r _ _ 6 _ (fam_len _ _ _)).trans ?_
  refine (ap_r _ _ 6 _ (fam_len _ _ _)).trans ?_
  exact fam_at h
theorem setFlow {cA : Nat → ClassId} {ad : Nat → Nat → Nat} {n : Nat} {σ : ST} {σ' : ST} {j : Nat} (h : j < 6) {e : va_E} (hX : wcX cA ad σ = wcX cA ad σ') (h2 : ∀ i, i < 6 → va_up (ceFlow ad σ) j e i = ceFlow ad σ' i) (h6 : ceQueue ad σ = ceQueue ad σ') (h3 : ceMean ad σ = ceMean ad σ') (h1 : ceDelay ad σ = ceDelay ad σ') (h5 : cePacket ad σ = cePacket ad σ') : (Wc cA ad n σ).set (7 + j) (ad 2 j, e) = Wc cA ad n σ' := by
  unfold Wc
  rw [ap_sr _ _ 7 _ _ rfl]
  rw [ap_sl _ _ 6 _ _ (fam_len _ _ _) h]
  rw [fam_set h, fam_eq h2, hX, h6, h3, h1, h5]
theorem setQueue {cA : Nat → ClassId} {ad : Nat → Nat → Nat} {n : Nat} {σ : ST} {σ' : ST} {j : Nat} (h : j < 6) {e : va_E} (hX : wcX cA ad σ = wcX cA ad σ') (h2 : ceFlow ad σ = ceFlow ad σ') (h6 : ∀ i, i < 6 → va_up (ceQueue ad σ) j e i = ceQueue ad σ' i) (h3 : ceMean ad σ = ceMean ad σ') (h1 : ceDelay ad σ = ceDelay ad σ') (h5 : cePacket ad σ = cePacket ad σ') : (Wc cA ad n σ).set (13 + j) (ad 6 j, e) = Wc cA ad n σ' := by
  unfold Wc
  rw [show 13 + j = 7 + (6 + j) from by omega]
  rw [ap_sr _ _ 7 _ _ rfl]
  rw [ap_sr _ _ 6 _ _ (fam_len _ _ _)]
  rw [ap_sl _ _ 6 _ _ (fam_len _ _ _) h]
  rw [fam_set h, fam_eq h6, hX, h2, h3, h1, h5]
theorem setMean {cA : Nat → ClassId} {ad : Nat → Nat → Nat} {n : Nat} {σ : ST} {σ' : ST} {j : Nat} (h : j < 6) {e : va_E} (hX : wcX cA ad σ = wcX cA ad σ') (h2 : ceFlow ad σ = ceFlow ad σ') (h6 : ceQueue ad σ = ceQueue ad σ') (h3 : ∀ i, i < 6 → va_up (ceMean ad σ) j e i = ceMean ad σ' i) (h1 : ceDelay ad σ = ceDelay ad σ') (h5 : cePacket ad σ = cePacket ad σ') : (Wc cA ad n σ).set (19 + j) (ad 3 j, e) = Wc cA ad n σ' := by
  unfold Wc
  rw [show 19 + j = 7 + (12 + j) from by omega]
  rw [ap_sr _ _ 7 _ _ rfl]
  rw [show 12 + j = 6 + (6 + j) from by omega]
  rw [ap_sr _ _ 6 _ _ (fam_len _ _ _)]
  rw [ap_sr _ _ 6 _ _ (fam_len _ _ _)]
  rw [ap_sl _ _ 6 _ _ (fam_len _ _ _) h]
  rw [fam_set h, fam_eq h3, hX, h2, h6, h1, h5]
theorem setDelay {cA : Nat → ClassId} {ad : Nat → Nat → Nat} {n : Nat} {σ : ST} {σ' : ST} {j : Nat} (h : j < 6) {e : va_E} (hX : wcX cA ad σ = wcX cA ad σ') (h2 : ceFlow ad σ = ceFlow ad σ') (h6 : ceQueue ad σ = ceQueue ad σ') (h3 : ceMean ad σ = ceMean ad σ') (h1 : ∀ i, i < 6 → va_up (ceDelay ad σ) j e i = ceDelay ad σ' i) (h5 : cePacket ad σ = cePacket ad σ') : (Wc cA ad n σ).set (25 + j) (ad 1 j, e) = Wc cA ad n σ' := by
  unfold Wc
  rw [show 25 + j = 7 + (18 + j) from by omega]
  rw [ap_sr _ _ 7 _ _ rfl]
  rw [show 18 + j = 6 + (12 + j) from by omega]
  rw [ap_sr _ _ 6 _ _ (fam_len _ _ _)]
  rw [show 12 + j = 6 + (6 + j) from by omega]
  rw [ap_sr _ _ 6 _ _ (fam_len _ _ _)]
  rw [ap_sr _ _ 6 _ _ (fam_len _ _ _)]
  rw [ap_sl _ _ 6 _ _ (fam_len _ _ _) h]
  rw [fam_set h, fam_eq h1, hX, h2, h6, h3, h5]
theorem setPacket {cA : Nat → ClassId} {ad : Nat → Nat → Nat} {n : Nat} {σ : ST} {σ' : ST} {j : Nat} (h : j < n) {e : va_E} (hX : wcX cA ad σ = wcX cA ad σ') (h2 : ceFlow ad σ = ceFlow ad σ') (h6 : ceQueue ad σ = ceQueue ad σ') (h3 : ceMean ad σ = ceMean ad σ') (h1 : ceDelay ad σ = ceDelay ad σ') (h5 : ∀ i, i < n → va_up (cePacket ad σ) j e i = cePacket ad σ' i) : (Wc cA ad n σ).set (31 + j) (ad 5 j, e) = Wc cA ad n σ' := by
  unfold Wc
  rw [show 31 + j = 7 + (24 + j) from by omega]
  rw [ap_sr _ _ 7 _ _ rfl]
  rw [show 24 + j = 6 + (18 + j) from by omega]
  rw [ap_sr _ _ 6 _ _ (fam_len _ _ _)]
  rw [show 18 + j = 6 + (12 + j) from by omega]
  rw [ap_sr _ _ 6 _ _ (fam_len _ _ _)]
  rw [show 12 + j = 6 + (6 + j) from by omega]
  rw [ap_sr _ _ 6 _ _ (fam_len _ _ _)]
  rw [ap_sr _ _ 6 _ _ (fam_len _ _ _)]
  rw [fam_set h, fam_eq h5, hX, h2, h6, h3, h1]
theorem stFlow_0 {cA : Nat → ClassId} {ad : Nat → Nat → Nat} {n : Nat} {σ : ST} {j : Nat} (h : j < 6) (v : Int32) : (Wc cA ad n σ).set (7 + j) (ad 2 j, .inr (2, (flFlow ad σ j).set 0 (.int v))) = Wc cA ad n (upI σ 32 j v) := setFlow h rfl (fun i _ => by
    by_cases q : i = j
    · subst q; rw [va_up_self]; show Sum.inr (2, (flFlow ad σ i).set 0 (.int v)) = Sum.inr (2, flFlow ad (upI σ 32 i v) i); refine congrArg _ (congrArg _ ?_); show _ = ([.int (sI (upI σ 32 i v) 32 i), .ref (ad 6 i), .ref (ad 3 i), .ref (ad 1 i), .int (sI (upI σ 32 i v) 36 i), .int (sI (upI σ 32 i v) 37 i), .int (sI (upI σ 32 i v) 38 i), va_re (ad 2) (sR (upI σ 32 i v) 39 i), .int (sI (upI σ 32 i v) 40 i), .int (sI (upI σ 32 i v) 41 i), .int (sI (upI σ 32 i v) 42 i), .int (sI (upI σ 32 i v) 43 i), .int (sI (upI σ 32 i v) 44 i), .int (sI (upI σ 32 i v) 45 i), .int (sI (upI σ 32 i v) 46 i)] : List Value); rw [sI_s]; rfl
    · rw [va_up_ne _ _ q]; show Sum.inr (2, flFlow ad σ i) = Sum.inr (2, flFlow ad (upI σ 32 j v) i); refine congrArg _ (congrArg _ ?_); show _ = ([.int (sI (upI σ 32 j v) 32 i), .ref (ad 6 i), .ref (ad 3 i), .ref (ad 1 i), .int (sI (upI σ 32 j v) 36 i), .int (sI (upI σ 32 j v) 37 i), .int (sI (upI σ 32 j v) 38 i), va_re (ad 2) (sR (upI σ 32 j v) 39 i), .int (sI (upI σ 32 j v) 40 i), .int (sI (upI σ 32 j v) 41 i), .int (sI (upI σ 32 j v) 42 i), .int (sI (upI σ 32 j v) 43 i), .int (sI (upI σ 32 j v) 44 i), .int (sI (upI σ 32 j v) 45 i), .int (sI (upI σ 32 j v) 46 i)] : List Value); rw [sI_n v q]; rfl) rfl rfl rfl rfl
theorem stFlow_4 {cA : Nat → ClassId} {ad : Nat → Nat → Nat} {n : Nat} {σ : ST} {j : Nat} (h : j < 6) (v : Int32) : (Wc cA ad n σ).set (7 + j) (ad 2 j, .inr (2, (flFlow ad σ j).set 4 (.int v))) = Wc cA ad n (upI σ 36 j v) := setFlow h rfl (fun i _ => by
    by_cases q : i = j
    · subst q; rw [va_up_self]; show Sum.inr (2, (flFlow ad σ i).set 4 (.int v)) = Sum.inr (2, flFlow ad (upI σ 36 i v) i); refine congrArg _ (congrArg _ ?_); show _ = ([.int (sI (upI σ 36 i v) 32 i), .ref (ad 6 i), .ref (ad 3 i), .ref (ad 1 i), .int (sI (upI σ 36 i v) 36 i), .int (sI (upI σ 36 i v) 37 i), .int (sI (upI σ 36 i v) 38 i), va_re (ad 2) (sR (upI σ 36 i v) 39 i), .int (sI (upI σ 36 i v) 40 i), .int (sI (upI σ 36 i v) 41 i), .int (sI (upI σ 36 i v) 42 i), .int (sI (upI σ 36 i v) 43 i), .int (sI (upI σ 36 i v) 44 i), .int (sI (upI σ 36 i v) 45 i), .int (sI (upI σ 36 i v) 46 i)] : List Value); rw [sI_s]; rfl
    · rw [va_up_ne _ _ q]; show Sum.inr (2, flFlow ad σ i) = Sum.inr (2, flFlow ad (upI σ 36 j v) i); refine congrArg _ (congrArg _ ?_); show _ = ([.int (sI (upI σ 36 j v) 32 i), .ref (ad 6 i), .ref (ad 3 i), .ref (ad 1 i), .int (sI (upI σ 36 j v) 36 i), .int (sI (upI σ 36 j v) 37 i), .int (sI (upI σ 36 j v) 38 i), va_re (ad 2) (sR (upI σ 36 j v) 39 i), .int (sI (upI σ 36 j v) 40 i), .int (sI (upI σ 36 j v) 41 i), .int (sI (upI σ 36 j v) 42 i), .int (sI (upI σ 36 j v) 43 i), .int (sI (upI σ 36 j v) 44 i), .int (sI (upI σ 36 j v) 45 i), .int (sI (upI σ 36 j v) 46 i)] : List Value); rw [sI_n v q]; rfl) rfl rfl rfl rfl
theorem stFlow_5 {cA : Nat → ClassId} {ad : Nat → Nat → Nat} {n : Nat} {σ : ST} {j : Nat} (h : j < 6) (v : Int32) : (Wc cA ad n σ).set (7 + j) (ad 2 j, .inr (2, (flFlow ad σ j).set 5 (.int v))) = Wc cA ad n (upI σ 37 j v) := setFlow h rfl (fun i _ => by
    by_cases q : i = j
    · subst q; rw [va_up_self]; show Sum.inr (2, (flFlow ad σ i).set 5 (.int v)) = Sum.inr (2, flFlow ad (upI σ 37 i v) i); refine congrArg _ (congrArg _ ?_); show _ = ([.int (sI (upI σ 37 i v) 32 i), .ref (ad 6 i), .ref (ad 3 i), .ref (ad 1 i), .int (sI (upI σ 37 i v) 36 i), .int (sI (upI σ 37 i v) 37 i), .int (sI (upI σ 37 i v) 38 i), va_re (ad 2) (sR (upI σ 37 i v) 39 i), .int (sI (upI σ 37 i v) 40 i), .int (sI (upI σ 37 i v) 41 i), .int (sI (upI σ 37 i v) 42 i), .int (sI (upI σ 37 i v) 43 i), .int (sI (upI σ 37 i v) 44 i), .int (sI (upI σ 37 i v) 45 i), .int (sI (upI σ 37 i v) 46 i)] : List Value); rw [sI_s]; rfl
    · rw [va_up_ne _ _ q]; show Sum.inr (2, flFlow ad σ i) = Sum.inr (2, flFlow ad (upI σ 37 j v) i); refine congrArg _ (congrArg _ ?_); show _ = ([.int (sI (upI σ 37 j v) 32 i), .ref (ad 6 i), .ref (ad 3 i), .ref (ad 1 i), .int (sI (upI σ 37 j v) 36 i), .int (sI (upI σ 37 j v) 37 i), .int (sI (upI σ 37 j v) 38 i), va_re (ad 2) (sR (upI σ 37 j v) 39 i), .int (sI (upI σ 37 j v) 40 i), .int (sI (upI σ 37 j v) 41 i), .int (sI (upI σ 37 j v) 42 i), .int (sI (upI σ 37 j v) 43 i), .int (sI (upI σ 37 j v) 44 i), .int (sI (upI σ 37 j v) 45 i), .int (sI (upI σ 37 j v) 46 i)] : List Value); rw [sI_n v q]; rfl) rfl rfl rfl rfl
theorem stFlow_6 {cA : Nat → ClassId} {ad : Nat → Nat → Nat} {n : Nat} {σ : ST} {j : Nat} (h : j < 6) (v : Int32) : (Wc cA ad n σ).set (7 + j) (ad 2 j, .inr (2, (flFlow ad σ j).set 6 (.int v))) = Wc cA ad n (upI σ 38 j v) := setFlow h rfl (fun i _ => by
    by_cases q : i = j
    · subst q; rw [va_up_self]; show Sum.inr (2, (flFlow ad σ i).set 6 (.int v)) = Sum.inr (2, flFlow ad (upI σ 38 i v) i); refine congrArg _ (congrArg _ ?_); show _ = ([.int (sI (upI σ 38 i v) 32 i), .ref (ad 6 i), .ref (ad 3 i), .ref (ad 1 i), .int (sI (upI σ 38 i v) 36 i), .int (sI (upI σ 38 i v) 37 i), .int (sI (upI σ 38 i v) 38 i), va_re (ad 2) (sR (upI σ 38 i v) 39 i), .int (sI (upI σ 38 i v) 40 i), .int (sI (upI σ 38 i v) 41 i), .int (sI (upI σ 38 i v) 42 i), .int (sI (upI σ 38 i v) 43 i), .int (sI (upI σ 38 i v) 44 i), .int (sI (upI σ 38 i v) 45 i), .int (sI (upI σ 38 i v) 46 i)] : List Value); rw [sI_s]; rfl
    · rw [va_up_ne _ _ q]; show Sum.inr (2, flFlow ad σ i) = Sum.inr (2, flFlow ad (upI σ 38 j v) i); refine congrArg _ (congrArg _ ?_); show _ = ([.int (sI (upI σ 38 j v) 32 i), .ref (ad 6 i), .ref (ad 3 i), .ref (ad 1 i), .int (sI (upI σ 38 j v) 36 i), .int (sI (upI σ 38 j v) 37 i), .int (sI (upI σ 38 j v) 38 i), va_re (ad 2) (sR (upI σ 38 j v) 39 i), .int (sI (upI σ 38 j v) 40 i), .int (sI (upI σ 38 j v) 41 i), .int (sI (upI σ 38 j v) 42 i), .int (sI (upI σ 38 j v) 43 i), .int (sI (upI σ 38 j v) 44 i), .int (sI (upI σ 38 j v) 45 i), .int (sI (upI σ 38 j v) 46 i)] : List Value); rw [sI_n v q]; rfl) rfl rfl rfl rfl
theorem stFlow_7 {cA : Nat → ClassId} {ad : Nat → Nat → Nat} {n : Nat} {σ : ST} {j : Nat} (h : j < 6) (v : Option Nat) : (Wc cA ad n σ).set (7 + j) (ad 2 j, .inr (2, (flFlow ad σ j).set 7 (va_re (ad 2) v))) = Wc cA ad n (upR σ 39 j v) := setFlow h rfl (fun i _ => by
    by_cases q : i = j
    · subst q; rw [va_up_self]; show Sum.inr (2, (flFlow ad σ i).set 7 (va_re (ad 2) v)) = Sum.inr (2, flFlow ad (upR σ 39 i v) i); refine congrArg _ (congrArg _ ?_); show _ = ([.int (sI (upR σ 39 i v) 32 i), .ref (ad 6 i), .ref (ad 3 i), .ref (ad 1 i), .int (sI (upR σ 39 i v) 36 i), .int (sI (upR σ 39 i v) 37 i), .int (sI (upR σ 39 i v) 38 i), va_re (ad 2) (sR (upR σ 39 i v) 39 i), .int (sI (upR σ 39 i v) 40 i), .int (sI (upR σ 39 i v) 41 i), .int (sI (upR σ 39 i v) 42 i), .int (sI (upR σ 39 i v) 43 i), .int (sI (upR σ 39 i v) 44 i), .int (sI (upR σ 39 i v) 45 i), .int (sI (upR σ 39 i v) 46 i)] : List Value); rw [sR_s]; rfl
    · rw [va_up_ne _ _ q]; show Sum.inr (2, flFlow ad σ i) = Sum.inr (2, flFlow ad (upR σ 39 j v) i); refine congrArg _ (congrArg _ ?_); show _ = ([.int (sI (upR σ 39 j v) 32 i), .ref (ad 6 i), .ref (ad 3 i), .ref (ad 1 i), .int (sI (upR σ 39 j v) 36 i), .int (sI (upR σ 39 j v) 37 i), .int (sI (upR σ 39 j v) 38 i), va_re (ad 2) (sR (upR σ 39 j v) 39 i), .int (sI (upR σ 39 j v) 40 i), .int (sI (upR σ 39 j v) 41 i), .int (sI (upR σ 39 j v) 42 i), .int (sI (upR σ 39 j v) 43 i), .int (sI (upR σ 39 j v) 44 i), .int (sI (upR σ 39 j v) 45 i), .int (sI (upR σ 39 j v) 46 i)] : List Value); rw [sR_n v q]; rfl) rfl rfl rfl rfl
theorem stFlow_8 {cA : Nat → ClassId} {ad : Nat → Nat → Nat} {n : Nat} {σ : ST} {j : Nat} (h : j < 6) (v : Int32) : (Wc cA ad n σ).set (7 + j) (ad 2 j, .inr (2, (flFlow ad σ j).set 8 (.int v))) = Wc cA ad n (upI σ 40 j v) := setFlow h rfl (fun i _ => by
    by_cases q : i = j
    · subst q; rw [va_up_self]; show Sum.inr (2, (flFlow ad σ i).set 8 (.int v)) = Sum.inr (2, flFlow ad (upI σ 40 i v) i); refine congrArg _ (congrArg _ ?_); show _ = ([.int (sI (upI σ 40 i v) 32 i), .ref (ad 6 i), .ref (ad 3 i), .ref (ad 1 i), .int (sI (upI σ 40 i v) 36 i), .int (sI (upI σ 40 i v) 37 i), .int (sI (upI σ 40 i v) 38 i), va_re (ad 2) (sR (upI σ 40 i v) 39 i), .int (sI (upI σ 40 i v) 40 i), .int (sI (upI σ 40 i v) 41 i), .int (sI (upI σ 40 i v) 42 i), .int (sI (upI σ 40 i v) 43 i), .int (sI (upI σ 40 i v) 44 i), .int (sI (upI σ 40 i v) 45 i), .int (sI (upI σ 40 i v) 46 i)] : List Value); rw [sI_s]; rfl
    · rw [va_up_ne _ _ q]; show Sum.inr (2, flFlow ad σ i) = Sum.inr (2, flFlow ad (upI σ 40 j v) i); refine congrArg _ (congrArg _ ?_); show _ = ([.int (sI (upI σ 40 j v) 32 i), .ref (ad 6 i), .ref (ad 3 i), .ref (ad 1 i), .int (sI (upI σ 40 j v) 36 i), .int (sI (upI σ 40 j v) 37 i), .int (sI (upI σ 40 j v) 38 i), va_re (ad 2) (sR (upI σ 40 j v) 39 i), .int (sI (upI σ 40 j v) 40 i), .int (sI (upI σ 40 j v) 41 i), .int (sI (upI σ 40 j v) 42 i), .int (sI (upI σ 40 j v) 43 i), .int (sI (upI σ 40 j v) 44 i), .int (sI (upI σ 40 j v) 45 i), .int (sI (upI σ 40 j v) 46 i)] : List Value); rw [sI_n v q]; rfl) rfl rfl rfl rfl
theorem stFlow_9 {cA : Nat → ClassId} {ad : Nat → Nat → Nat} {n : Nat} {σ : ST} {j : Nat} (h : j < 6) (v : Int32) : (Wc cA ad n σ).set (7 + j) (ad 2 j, .inr (2, (flFlow ad σ j).set 9 (.int v))) = Wc cA ad n (upI σ 41 j v) := setFlow h rfl (fun i _ => by
    by_cases q : i = j
    · subst q; rw [va_up_self]; show Sum.inr (2, (flFlow ad σ i).set 9 (.int v)) = Sum.inr (2, flFlow ad (upI σ 41 i v) i); refine congrArg _ (congrArg _ ?_); show _ = ([.int (sI (upI σ 41 i v) 32 i), .ref (ad 6 i), .ref (ad 3 i), .ref (ad 1 i), .int (sI (upI σ 41 i v) 36 i), .int (sI (upI σ 41 i v) 37 i), .int (sI (upI σ 41 i v) 38 i), va_re (ad 2) (sR (upI σ 41 i v) 39 i), .int (sI (upI σ 41 i v) 40 i), .int (sI (upI σ 41 i v) 41 i), .int (sI (upI σ 41 i v) 42 i), .int (sI (upI σ 41 i v) 43 i), .int (sI (upI σ 41 i v) 44 i), .int (sI (upI σ 41 i v) 45 i), .int (sI (upI σ 41 i v) 46 i)] : List Value); rw [sI_s]; rfl
    · rw [va_up_ne _ _ q]; show Sum.inr (2, flFlow ad σ i) = Sum.inr (2, flFlow ad (upI σ 41 j v) i); refine congrArg _ (congrArg _ ?_); show _ = ([.int (sI (upI σ 41 j v) 32 i), .ref (ad 6 i), .ref (ad 3 i), .ref (ad 1 i), .int (sI (upI σ 41 j v) 36 i), .int (sI (upI σ 41 j v) 37 i), .int (sI (upI σ 41 j v) 38 i), va_re (ad 2) (sR (upI σ 41 j v) 39 i), .int (sI (upI σ 41 j v) 40 i), .int (sI (upI σ 41 j v) 41 i), .int (sI (upI σ 41 j v) 42 i), .int (sI (upI σ 41 j v) 43 i), .int (sI (upI σ 41 j v) 44 i), .int (sI (upI σ 41 j v) 45 i), .int (sI (upI σ 41 j v) 46 i)] : List Value); rw [sI_n v q]; rfl) rfl rfl rfl rfl
theorem stFlow_10 {cA : Nat → ClassId} {ad : Nat → Nat → Nat} {n : Nat} {σ : ST} {j : Nat} (h : j < 6) (v : Int32) : (Wc cA ad n σ).set (7 + j) (ad 2 j, .inr (2, (flFlow ad σ j).set 10 (.int v))) = Wc cA ad n (upI σ 42 j v) := setFlow h rfl (fun i _ => by
    by_cases q : i = j
    · subst q; rw [va_up_self]; show Sum.inr (2, (flFlow ad σ i).set 10 (.int v)) = Sum.inr (2, flFlow ad (upI σ 42 i v) i); refine congrArg _ (congrArg _ ?_); show _ = ([.int (sI (upI σ 42 i v) 32 i), .ref (ad 6 i), .ref (ad 3 i), .ref (ad 1 i), .int (sI (upI σ 42 i v) 36 i), .int (sI (upI σ 42 i v) 37 i), .int (sI (upI σ 42 i v) 38 i), va_re (ad 2) (sR (upI σ 42 i v) 39 i), .int (sI (upI σ 42 i v) 40 i), .int (sI (upI σ 42 i v) 41 i), .int (sI (upI σ 42 i v) 42 i), .int (sI (upI σ 42 i v) 43 i), .int (sI (upI σ 42 i v) 44 i), .int (sI (upI σ 42 i v) 45 i), .int (sI (upI σ 42 i v) 46 i)] : List Value); rw [sI_s]; rfl
    · rw [va_up_ne _ _ q]; show Sum.inr (2, flFlow ad σ i) = Sum.inr (2, flFlow ad (upI σ 42 j v) i); refine congrArg _ (congrArg _ ?_); show _ = ([.int (sI (upI σ 42 j v) 32 i), .ref (ad 6 i), .ref (ad 3 i), .ref (ad 1 i), .int (sI (upI σ 42 j v) 36 i), .int (sI (upI σ 42 j v) 37 i), .int (sI (upI σ 42 j v) 38 i), va_re (ad 2) (sR (upI σ 42 j v) 39 i), .int (sI (upI σ 42 j v) 40 i), .int (sI (upI σ 42 j v) 41 i), .int (sI (upI σ 42 j v) 42 i), .int (sI (upI σ 42 j v) 43 i), .int (sI (upI σ 42 j v) 44 i), .int (sI (upI σ 42 j v) 45 i), .int (sI (upI σ 42 j v) 46 i)] : List Value); rw [sI_n v q]; rfl) rfl rfl rfl rfl
theorem stFlow_11 {cA : Nat → ClassId} {ad : Nat → Nat → Nat} {n : Nat} {σ : ST} {j : Nat} (h : j < 6) (v : Int32) : (Wc cA ad n σ).set (7 + j) (ad 2 j, .inr (2, (flFlow ad σ j).set 11 (.int v))) = Wc cA ad n (upI σ 43 j v) := setFlow h rfl (fun i _ => by
    by_cases q : i = j
    · subst q; rw [va_up_self]; show Sum.inr (2, (flFlow ad σ i).set 11 (.int v)) = Sum.inr (2, flFlow ad (upI σ 43 i v) i); refine congrArg _ (congrArg _ ?_); show _ = ([.int (sI (upI σ 43 i v) 32 i), .ref (ad 6 i), .ref (ad 3 i), .ref (ad 1 i), .int (sI (upI σ 43 i v) 36 i), .int (sI (upI σ 43 i v) 37 i), .int (sI (upI σ 43 i v) 38 i), va_re (ad 2) (sR (upI σ 43 i v) 39 i), .int (sI (upI σ 43 i v) 40 i), .int (sI (upI σ 43 i v) 41 i), .int (sI (upI σ 43 i v) 42 i), .int (sI (upI σ 43 i v) 43 i), .int (sI (upI σ 43 i v) 44 i), .int (sI (upI σ 43 i v) 45 i), .int (sI (upI σ 43 i v) 46 i)] : List Value); rw [sI_s]; rfl
    · rw [va_up_ne _ _ q]; show Sum.inr (2, flFlow ad σ i) = Sum.inr (2, flFlow ad (upI σ 43 j v) i); refine congrArg _ (congrArg _ ?_); show _ = ([.int (sI (upI σ 43 j v) 32 i), .ref (ad 6 i), .ref (ad 3 i), .ref (ad 1 i), .int (sI (upI σ 43 j v) 36 i), .int (sI (upI σ 43 j v) 37 i), .int (sI (upI σ 43 j v) 38 i), va_re (ad 2) (sR (upI σ 43 j v) 39 i), .int (sI (upI σ 43 j v) 40 i), .int (sI (upI σ 43 j v) 41 i), .int (sI (upI σ 43 j v) 42 i), .int (sI (upI σ 43 j v) 43 i), .int (sI (upI σ 43 j v) 44 i), .int (sI (upI σ 43 j v) 45 i), .int (sI (upI σ 43 j v) 46 i)] : List Value); rw [sI_n v q]; rfl) rfl rfl rfl rfl
theorem stFlow_12 {cA : Nat → ClassId} {ad : Nat → Nat → Nat} {n : Nat} {σ : ST} {j : Nat} (h : j < 6) (v : Int32) : (Wc cA ad n σ).set (7 + j) (ad 2 j, .inr (2, (flFlow ad σ j).set 12 (.int v))) = Wc cA ad n (upI σ 44 j v) := setFlow h rfl (fun i _ => by
    by_cases q : i = j
    · subst q; rw [va_up_self]; show Sum.inr (2, (flFlow ad σ i).set 12 (.int v)) = Sum.inr (2, flFlow ad (upI σ 44 i v) i); refine congrArg _ (congrArg _ ?_); show _ = ([.int (sI (upI σ 44 i v) 32 i), .ref (ad 6 i), .ref (ad 3 i), .ref (ad 1 i), .int (sI (upI σ 44 i v) 36 i), .int (sI (upI σ 44 i v) 37 i), .int (sI (upI σ 44 i v) 38 i), va_re (ad 2) (sR (upI σ 44 i v) 39 i), .int (sI (upI σ 44 i v) 40 i), .int (sI (upI σ 44 i v) 41 i), .int (sI (upI σ 44 i v) 42 i), .int (sI (upI σ 44 i v) 43 i), .int (sI (upI σ 44 i v) 44 i), .int (sI (upI σ 44 i v) 45 i), .int (sI (upI σ 44 i v) 46 i)] : List Value); rw [sI_s]; rfl
    · rw [va_up_ne _ _ q]; show Sum.inr (2, flFlow ad σ i) = Sum.inr (2, flFlow ad (upI σ 44 j v) i); refine congrArg _ (congrArg _ ?_); show _ = ([.int (sI (upI σ 44 j v) 32 i), .ref (ad 6 i), .ref (ad 3 i), .ref (ad 1 i), .int (sI (upI σ 44 j v) 36 i), .int (sI (upI σ 44 j v) 37 i), .int (sI (upI σ 44 j v) 38 i), va_re (ad 2) (sR (upI σ 44 j v) 39 i), .int (sI (upI σ 44 j v) 40 i), .int (sI (upI σ 44 j v) 41 i), .int (sI (upI σ 44 j v) 42 i), .int (sI (upI σ 44 j v) 43 i), .int (sI (upI σ 44 j v) 44 i), .int (sI (upI σ 44 j v) 45 i), .int (sI (upI σ 44 j v) 46 i)] : List Value); rw [sI_n v q]; rfl) rfl rfl rfl rfl
theorem stFlow_13 {cA : Nat → ClassId} {ad : Nat → Nat → Nat} {n : Nat} {σ : ST} {j : Nat} (h : j < 6) (v : Int32) : (Wc cA ad n σ).set (7 + j) (ad 2 j, .inr (2, (flFlow ad σ j).set 13 (.int v))) = Wc cA ad n (upI σ 45 j v) := setFlow h rfl (fun i _ => by
    by_cases q : i = j
    · subst q; rw [va_up_self]; show Sum.inr (2, (flFlow ad σ i).set 13 (.int v)) = Sum.inr (2, flFlow ad (upI σ 45 i v) i); refine congrArg _ (congrArg _ ?_); show _ = ([.int (sI (upI σ 45 i v) 32 i), .ref (ad 6 i), .ref (ad 3 i), .ref (ad 1 i), .int (sI (upI σ 45 i v) 36 i), .int (sI (upI σ 45 i v) 37 i), .int (sI (upI σ 45 i v) 38 i), va_re (ad 2) (sR (upI σ 45 i v) 39 i), .int (sI (upI σ 45 i v) 40 i), .int (sI (upI σ 45 i v) 41 i), .int (sI (upI σ 45 i v) 42 i), .int (sI (upI σ 45 i v) 43 i), .int (sI (upI σ 45 i v) 44 i), .int (sI (upI σ 45 i v) 45 i), .int (sI (upI σ 45 i v) 46 i)] : List Value); rw [sI_s]; rfl
    · rw [va_up_ne _ _ q]; show Sum.inr (2, flFlow ad σ i) = Sum.inr (2, flFlow ad (upI σ 45 j v) i); refine congrArg _ (congrArg _ ?_); show _ = ([.int (sI (upI σ 45 j v) 32 i), .ref (ad 6 i), .ref (ad 3 i), .ref (ad 1 i), .int (sI (upI σ 45 j v) 36 i), .int (sI (upI σ 45 j v) 37 i), .int (sI (upI σ 45 j v) 38 i), va_re (ad 2) (sR (upI σ 45 j v) 39 i), .int (sI (upI σ 45 j v) 40 i), .int (sI (upI σ 45 j v) 41 i), .int (sI (upI σ 45 j v) 42 i), .int (sI (upI σ 45 j v) 43 i), .int (sI (upI σ 45 j v) 44 i), .int (sI (upI σ 45 j v) 45 i), .int (sI (upI σ 45 j v) 46 i)] : List Value); rw [sI_n v q]; rfl) rfl rfl rfl rfl
theorem stFlow_14 {cA : Nat → ClassId} {ad : Nat → Nat → Nat} {n : Nat} {σ : ST} {j : Nat} (h : j < 6) (v : Int32) : (Wc cA ad n σ).set (7 + j) (ad 2 j, .inr (2, (flFlow ad σ j).set 14 (.int v))) = Wc cA ad n (upI σ 46 j v) := setFlow h rfl (fun i _ => by
    by_cases q : i = j
    · subst q; rw [va_up_self]; show Sum.inr (2, (flFlow ad σ i).set 14 (.int v)) = Sum.inr (2, flFlow ad (upI σ 46 i v) i); refine congrArg _ (congrArg _ ?_); show _ = ([.int (sI (upI σ 46 i v) 32 i), .ref (ad 6 i), .ref (ad 3 i), .ref (ad 1 i), .int (sI (upI σ 46 i v) 36 i), .int (sI (upI σ 46 i v) 37 i), .int (sI (upI σ 46 i v) 38 i), va_re (ad 2) (sR (upI σ 46 i v) 39 i), .int (sI (upI σ 46 i v) 40 i), .int (sI (upI σ 46 i v) 41 i), .int (sI (upI σ 46 i v) 42 i), .int (sI (upI σ 46 i v) 43 i), .int (sI (upI σ 46 i v) 44 i), .int (sI (upI σ 46 i v) 45 i), .int (sI (upI σ 46 i v) 46 i)] : List Value); rw [sI_s]; rfl
    · rw [va_up_ne _ _ q]; show Sum.inr (2, flFlow ad σ i) = Sum.inr (2, flFlow ad (upI σ 46 j v) i); refine congrArg _ (congrArg _ ?_); show _ = ([.int (sI (upI σ 46 j v) 32 i), .ref (ad 6 i), .ref (ad 3 i), .ref (ad 1 i), .int (sI (upI σ 46 j v) 36 i), .int (sI (upI σ 46 j v) 37 i), .int (sI (upI σ 46 j v) 38 i), va_re (ad 2) (sR (upI σ 46 j v) 39 i), .int (sI (upI σ 46 j v) 40 i), .int (sI (upI σ 46 j v) 41 i), .int (sI (upI σ 46 j v) 42 i), .int (sI (upI σ 46 j v) 43 i), .int (sI (upI σ 46 j v) 44 i), .int (sI (upI σ 46 j v) 45 i), .int (sI (upI σ 46 j v) 46 i)] : List Value); rw [sI_n v q]; rfl) rfl rfl rfl rfl
theorem stQueue_0 {cA : Nat → ClassId} {ad : Nat → Nat → Nat} {n : Nat} {σ : ST} {j : Nat} (h : j < 6) (v : Option Nat) : (Wc cA ad n σ).set (13 + j) (ad 6 j, .inr (6, (flQueue ad σ j).set 0 (va_re (ad 5) v))) = Wc cA ad n (upR σ 96 j v) := setQueue h rfl rfl (fun i _ => by
    by_cases q : i = j
    · subst q; rw [va_up_self]; show Sum.inr (6, (flQueue ad σ i).set 0 (va_re (ad 5) v)) = Sum.inr (6, flQueue ad (upR σ 96 i v) i); refine congrArg _ (congrArg _ ?_); show _ = ([va_re (ad 5) (sR (upR σ 96 i v) 96 i), va_re (ad 5) (sR (upR σ 96 i v) 97 i), .int (sI (upR σ 96 i v) 98 i), .int (sI (upR σ 96 i v) 99 i)] : List Value); rw [sR_s]; rfl
    · rw [va_up_ne _ _ q]; show Sum.inr (6, flQueue ad σ i) = Sum.inr (6, flQueue ad (upR σ 96 j v) i); refine congrArg _ (congrArg _ ?_); show _ = ([va_re (ad 5) (sR (upR σ 96 j v) 96 i), va_re (ad 5) (sR (upR σ 96 j v) 97 i), .int (sI (upR σ 96 j v) 98 i), .int (sI (upR σ 96 j v) 99 i)] : List Value); rw [sR_n v q]; rfl) rfl rfl rfl
theorem stQueue_1 {cA : Nat → ClassId} {ad : Nat → Nat → Nat} {n : Nat} {σ : ST} {j : Nat} (h : j < 6) (v : Option Nat) : (Wc cA ad n σ).set (13 + j) (ad 6 j, .inr (6, (flQueue ad σ j).set 1 (va_re (ad 5) v))) = Wc cA ad n (upR σ 97 j v) := setQueue h rfl rfl (fun i _ => by
    by_cases q : i = j
    · subst q; rw [va_up_self]; show Sum.inr (6, (flQueue ad σ i).set 1 (va_re (ad 5) v)) = Sum.inr (6, flQueue ad (upR σ 97 i v) i); refine congrArg _ (congrArg _ ?_); show _ = ([va_re (ad 5) (sR (upR σ 97 i v) 96 i), va_re (ad 5) (sR (upR σ 97 i v) 97 i), .int (sI (upR σ 97 i v) 98 i), .int (sI (upR σ 97 i v) 99 i)] : List Value); rw [sR_s]; rfl
    · rw [va_up_ne _ _ q]; show Sum.inr (6, flQueue ad σ i) = Sum.inr (6, flQueue ad (upR σ 97 j v) i); refine congrArg _ (congrArg _ ?_); show _ = ([va_re (ad 5) (sR (upR σ 97 j v) 96 i), va_re (ad 5) (sR (upR σ 97 j v) 97 i), .int (sI (upR σ 97 j v) 98 i), .int (sI (upR σ 97 j v) 99 i)] : List Value); rw [sR_n v q]; rfl) rfl rfl rfl
theorem stQueue_2 {cA : Nat → ClassId} {ad : Nat → Nat → Nat} {n : Nat} {σ : ST} {j : Nat} (h : j < 6) (v : Int32) : (Wc cA ad n σ).set (13 + j) (ad 6 j, .inr (6, (flQueue ad σ j).set 2 (.int v))) = Wc cA ad n (upI σ 98 j v) := setQueue h rfl rfl (fun i _ => by
    by_cases q : i = j
    · subst q; rw [va_up_self]; show Sum.inr (6, (flQueue ad σ i).set 2 (.int v)) = Sum.inr (6, flQueue ad (upI σ 98 i v) i); refine congrArg _ (congrArg _ ?_); show _ = ([va_re (ad 5) (sR (upI σ 98 i v) 96 i), va_re (ad 5) (sR (upI σ 98 i v) 97 i), .int (sI (upI σ 98 i v) 98 i), .int (sI (upI σ 98 i v) 99 i)] : List Value); rw [sI_s]; rfl
    · rw [va_up_ne _ _ q]; show Sum.inr (6, flQueue ad σ i) = Sum.inr (6, flQueue ad (upI σ 98 j v) i); refine congrArg _ (congrArg _ ?_); show _ = ([va_re (ad 5) (sR (upI σ 98 j v) 96 i), va_re (ad 5) (sR (upI σ 98 j v) 97 i), .int (sI (upI σ 98 j v) 98 i), .int (sI (upI σ 98 j v) 99 i)] : List Value); rw [sI_n v q]; rfl) rfl rfl rfl
theorem stQueue_3 {cA : Nat → ClassId} {ad : Nat → Nat → Nat} {n : Nat} {σ : ST} {j : Nat} (h : j < 6) (v : Int32) : (Wc cA ad n σ).set (13 + j) (ad 6 j, .inr (6, (flQueue ad σ j).set 3 (.int v))) = Wc cA ad n (upI σ 99 j v) := setQueue h rfl rfl (fun i _ => by
    by_cases q : i = j
    · subst q; rw [va_up_self]; show Sum.inr (6, (flQueue ad σ i).set 3 (.int v)) = Sum.inr (6, flQueue ad (upI σ 99 i v) i); refine congrArg _ (congrArg _ ?_); show _ = ([va_re (ad 5) (sR (upI σ 99 i v) 96 i), va_re (ad 5) (sR (upI σ 99 i v) 97 i), .int (sI (upI σ 99 i v) 98 i), .int (sI (upI σ 99 i v) 99 i)] : List Value); rw [sI_s]; rfl
    · rw [va_up_ne _ _ q]; show Sum.inr (6, flQueue ad σ i) = Sum.inr (6, flQueue ad (upI σ 99 j v) i); refine congrArg _ (congrArg _ ?_); show _ = ([va_re (ad 5) (sR (upI σ 99 j v) 96 i), va_re (ad 5) (sR (upI σ 99 j v) 97 i), .int (sI (upI σ 99 j v) 98 i), .int (sI (upI σ 99 j v) 99 i)] : List Value); rw [sI_n v q]; rfl) rfl rfl rfl
theorem stMean_0 {cA : Nat → ClassId} {ad : Nat → Nat → Nat} {n : Nat} {σ : ST} {j : Nat} (h : j < 6) (v : UInt64) : (Wc cA ad n σ).set (19 + j) (ad 3 j, .inr (3, (flMean ad σ j).set 0 (.double v))) = Wc cA ad n (upD σ 48 j v) := setMean h rfl rfl rfl (fun i _ => by
    by_cases q : i = j
    · subst q; rw [va_up_self]; show Sum.inr (3, (flMean ad σ i).set 0 (.double v)) = Sum.inr (3, flMean ad (upD σ 48 i v) i); refine congrArg _ (congrArg _ ?_); show _ = ([.double (sD (upD σ 48 i v) 48 i), .double (sD (upD σ 48 i v) 49 i), .double (sD (upD σ 48 i v) 50 i), .double (sD (upD σ 48 i v) 51 i), .double (sD (upD σ 48 i v) 52 i), .int (sI (upD σ 48 i v) 53 i), .int (sI (upD σ 48 i v) 54 i)] : List Value); rw [sD_s]; rfl
    · rw [va_up_ne _ _ q]; show Sum.inr (3, flMean ad σ i) = Sum.inr (3, flMean ad (upD σ 48 j v) i); refine congrArg _ (congrArg _ ?_); show _ = ([.double (sD (upD σ 48 j v) 48 i), .double (sD (upD σ 48 j v) 49 i), .double (sD (upD σ 48 j v) 50 i), .double (sD (upD σ 48 j v) 51 i), .double (sD (upD σ 48 j v) 52 i), .int (sI (upD σ 48 j v) 53 i), .int (sI (upD σ 48 j v) 54 i)] : List Value); rw [sD_n v q]; rfl) rfl rfl
theorem stMean_1 {cA : Nat → ClassId} {ad : Nat → Nat → Nat} {n : Nat} {σ : ST} {j : Nat} (h : j < 6) (v : UInt64) : (Wc cA ad n σ).set (19 + j) (ad 3 j, .inr (3, (flMean ad σ j).set 1 (.double v))) = Wc cA ad n (upD σ 49 j v) := setMean h rfl rfl rfl (fun i _ => by
    by_cases q : i = j
    · subst q; rw [va_up_self]; show Sum.inr (3, (flMean ad σ i).set 1 (.double v)) = Sum.inr (3, flMean ad (upD σ 49 i v) i); refine congrArg _ (congrArg _ ?_); show _ = ([.double (sD (upD σ 49 i v) 48 i), .double (sD (upD σ 49 i v) 49 i), .double (sD (upD σ 49 i v) 50 i), .double (sD (upD σ 49 i v) 51 i), .double (sD (upD σ 49 i v) 52 i), .int (sI (upD σ 49 i v) 53 i), .int (sI (upD σ 49 i v) 54 i)] : List Value); rw [sD_s]; rfl
    · rw [va_up_ne _ _ q]; show Sum.inr (3, flMean ad σ i) = Sum.inr (3, flMean ad (upD σ 49 j v) i); refine congrArg _ (congrArg _ ?_); show _ = ([.double (sD (upD σ 49 j v) 48 i), .double (sD (upD σ 49 j v) 49 i), .double (sD (upD σ 49 j v) 50 i), .double (sD (upD σ 49 j v) 51 i), .double (sD (upD σ 49 j v) 52 i), .int (sI (upD σ 49 j v) 53 i), .int (sI (upD σ 49 j v) 54 i)] : List Value); rw [sD_n v q]; rfl) rfl rfl
theorem stMean_2 {cA : Nat → ClassId} {ad : Nat → Nat → Nat} {n : Nat} {σ : ST} {j : Nat} (h : j < 6) (v : UInt64) : (Wc cA ad n σ).set (19 + j) (ad 3 j, .inr (3, (flMean ad σ j).set 2 (.double v))) = Wc cA ad n (upD σ 50 j v) := setMean h rfl rfl rfl (fun i _ => by
    by_cases q : i = j
    · subst q; rw [va_up_self]; show Sum.inr (3, (flMean ad σ i).set 2 (.double v)) = Sum.inr (3, flMean ad (upD σ 50 i v) i); refine congrArg _ (congrArg _ ?_); show _ = ([.double (sD (upD σ 50 i v) 48 i), .double (sD (upD σ 50 i v) 49 i), .double (sD (upD σ 50 i v) 50 i), .double (sD (upD σ 50 i v) 51 i), .double (sD (upD σ 50 i v) 52 i), .int (sI (upD σ 50 i v) 53 i), .int (sI (upD σ 50 i v) 54 i)] : List Value); rw [sD_s]; rfl
    · rw [va_up_ne _ _ q]; show Sum.inr (3, flMean ad σ i) = Sum.inr (3, flMean ad (upD σ 50 j v) i); refine congrArg _ (congrArg _ ?_); show _ = ([.double (sD (upD σ 50 j v) 48 i), .double (sD (upD σ 50 j v) 49 i), .double (sD (upD σ 50 j v) 50 i), .double (sD (upD σ 50 j v) 51 i), .double (sD (upD σ 50 j v) 52 i), .int (sI (upD σ 50 j v) 53 i), .int (sI (upD σ 50 j v) 54 i)] : List Value); rw [sD_n v q]; rfl) rfl rfl
theorem stMean_3 {cA : Nat → ClassId} {ad : Nat → Nat → Nat} {n : Nat} {σ : ST} {j : Nat} (h : j < 6) (v : UInt64) : (Wc cA ad n σ).set (19 + j) (ad 3 j, .inr (3, (flMean ad σ j).set 3 (.double v))) = Wc cA ad n (upD σ 51 j v) := setMean h rfl rfl rfl (fun i _ => by
    by_cases q : i = j
    · subst q; rw [va_up_self]; show Sum.inr (3, (flMean ad σ i).set 3 (.double v)) = Sum.inr (3, flMean ad (upD σ 51 i v) i); refine congrArg _ (congrArg _ ?_); show _ = ([.double (sD (upD σ 51 i v) 48 i), .double (sD (upD σ 51 i v) 49 i), .double (sD (upD σ 51 i v) 50 i), .double (sD (upD σ 51 i v) 51 i), .double (sD (upD σ 51 i v) 52 i), .int (sI (upD σ 51 i v) 53 i), .int (sI (upD σ 51 i v) 54 i)] : List Value); rw [sD_s]; rfl
    · rw [va_up_ne _ _ q]; show Sum.inr (3, flMean ad σ i) = Sum.inr (3, flMean ad (upD σ 51 j v) i); refine congrArg _ (congrArg _ ?_); show _ = ([.double (sD (upD σ 51 j v) 48 i), .double (sD (upD σ 51 j v) 49 i), .double (sD (upD σ 51 j v) 50 i), .double (sD (upD σ 51 j v) 51 i), .double (sD (upD σ 51 j v) 52 i), .int (sI (upD σ 51 j v) 53 i), .int (sI (upD σ 51 j v) 54 i)] : List Value); rw [sD_n v q]; rfl) rfl rfl
theorem stMean_4 {cA : Nat → ClassId} {ad : Nat → Nat → Nat} {n : Nat} {σ : ST} {j : Nat} (h : j < 6) (v : UInt64) : (Wc cA ad n σ).set (19 + j) (ad 3 j, .inr (3, (flMean ad σ j).set 4 (.double v))) = Wc cA ad n (upD σ 52 j v) := setMean h rfl rfl rfl (fun i _ => by
    by_cases q : i = j
    · subst q; rw [va_up_self]; show Sum.inr (3, (flMean ad σ i).set 4 (.double v)) = Sum.inr (3, flMean ad (upD σ 52 i v) i); refine congrArg _ (congrArg _ ?_); show _ = ([.double (sD (upD σ 52 i v) 48 i), .double (sD (upD σ 52 i v) 49 i), .double (sD (upD σ 52 i v) 50 i), .double (sD (upD σ 52 i v) 51 i), .double (sD (upD σ 52 i v) 52 i), .int (sI (upD σ 52 i v) 53 i), .int (sI (upD σ 52 i v) 54 i)] : List Value); rw [sD_s]; rfl
    · rw [va_up_ne _ _ q]; show Sum.inr (3, flMean ad σ i) = Sum.inr (3, flMean ad (upD σ 52 j v) i); refine congrArg _ (congrArg _ ?_); show _ = ([.double (sD (upD σ 52 j v) 48 i), .double (sD (upD σ 52 j v) 49 i), .double (sD (upD σ 52 j v) 50 i), .double (sD (upD σ 52 j v) 51 i), .double (sD (upD σ 52 j v) 52 i), .int (sI (upD σ 52 j v) 53 i), .int (sI (upD σ 52 j v) 54 i)] : List Value); rw [sD_n v q]; rfl) rfl rfl
theorem stMean_5 {cA : Nat → ClassId} {ad : Nat → Nat → Nat} {n : Nat} {σ : ST} {j : Nat} (h : j < 6) (v : Int32) : (Wc cA ad n σ).set (19 + j) (ad 3 j, .inr (3, (flMean ad σ j).set 5 (.int v))) = Wc cA ad n (upI σ 53 j v) := setMean h rfl rfl rfl (fun i _ => by
    by_cases q : i = j
    · subst q; rw [va_up_self]; show Sum.inr (3, (flMean ad σ i).set 5 (.int v)) = Sum.inr (3, flMean ad (upI σ 53 i v) i); refine congrArg _ (congrArg _ ?_); show _ = ([.double (sD (upI σ 53 i v) 48 i), .double (sD (upI σ 53 i v) 49 i), .double (sD (upI σ 53 i v) 50 i), .double (sD (upI σ 53 i v) 51 i), .double (sD (upI σ 53 i v) 52 i), .int (sI (upI σ 53 i v) 53 i), .int (sI (upI σ 53 i v) 54 i)] : List Value); rw [sI_s]; rfl
    · rw [va_up_ne _ _ q]; show Sum.inr (3, flMean ad σ i) = Sum.inr (3, flMean ad (upI σ 53 j v) i); refine congrArg _ (congrArg _ ?_); show _ = ([.double (sD (upI σ 53 j v) 48 i), .double (sD (upI σ 53 j v) 49 i), .double (sD (upI σ 53 j v) 50 i), .double (sD (upI σ 53 j v) 51 i), .double (sD (upI σ 53 j v) 52 i), .int (sI (upI σ 53 j v) 53 i), .int (sI (upI σ 53 j v) 54 i)] : List Value); rw [sI_n v q]; rfl) rfl rfl
theorem stMean_6 {cA : Nat → ClassId} {ad : Nat → Nat → Nat} {n : Nat} {σ : ST} {j : Nat} (h : j < 6) (v : Int32) : (Wc cA ad n σ).set (19 + j) (ad 3 j, .inr (3, (flMean ad σ j).set 6 (.int v))) = Wc cA ad n (upI σ 54 j v) := setMean h rfl rfl rfl (fun i _ => by
    by_cases q : i = j
    · subst q; rw [va_up_self]; show Sum.inr (3, (flMean ad σ i).set 6 (.int v)) = Sum.inr (3, flMean ad (upI σ 54 i v) i); refine congrArg _ (congrArg _ ?_); show _ = ([.double (sD (upI σ 54 i v) 48 i), .double (sD (upI σ 54 i v) 49 i), .double (sD (upI σ 54 i v) 50 i), .double (sD (upI σ 54 i v) 51 i), .double (sD (upI σ 54 i v) 52 i), .int (sI (upI σ 54 i v) 53 i), .int (sI (upI σ 54 i v) 54 i)] : List Value); rw [sI_s]; rfl
    · rw [va_up_ne _ _ q]; show Sum.inr (3, flMean ad σ i) = Sum.inr (3, flMean ad (upI σ 54 j v) i); refine congrArg _ (congrArg _ ?_); show _ = ([.double (sD (upI σ 54 j v) 48 i), .double (sD (upI σ 54 j v) 49 i), .double (sD (upI σ 54 j v) 50 i), .double (sD (upI σ 54 j v) 51 i), .double (sD (upI σ 54 j v) 52 i), .int (sI (upI σ 54 j v) 53 i), .int (sI (upI σ 54 j v) 54 i)] : List Value); rw [sI_n v q]; rfl) rfl rfl
theorem stDelay_0 {cA : Nat → ClassId} {ad : Nat → Nat → Nat} {n : Nat} {σ : ST} {j : Nat} (h : j < 6) (v : UInt64) : (Wc cA ad n σ).set (25 + j) (ad 1 j, .inr (1, (flDelay ad σ j).set 0 (.double v))) = Wc cA ad n (upD σ 16 j v) := setDelay h rfl rfl rfl rfl (fun i _ => by
    by_cases q : i = j
    · subst q; rw [va_up_self]; show Sum.inr (1, (flDelay ad σ i).set 0 (.double v)) = Sum.inr (1, flDelay ad (upD σ 16 i v) i); refine congrArg _ (congrArg _ ?_); show _ = ([.double (sD (upD σ 16 i v) 16 i), .double (sD (upD σ 16 i v) 17 i), .int (sI (upD σ 16 i v) 18 i), .double (sD (upD σ 16 i v) 19 i), .int (sI (upD σ 16 i v) 20 i), .double (sD (upD σ 16 i v) 21 i), .int (sI (upD σ 16 i v) 22 i), .int (sI (upD σ 16 i v) 23 i)] : List Value); rw [sD_s]; rfl
    · rw [va_up_ne _ _ q]; show Sum.inr (1, flDelay ad σ i) = Sum.inr (1, flDelay ad (upD σ 16 j v) i); refine congrArg _ (congrArg _ ?_); show _ = ([.double (sD (upD σ 16 j v) 16 i), .double (sD (upD σ 16 j v) 17 i), .int (sI (upD σ 16 j v) 18 i), .double (sD (upD σ 16 j v) 19 i), .int (sI (upD σ 16 j v) 20 i), .double (sD (upD σ 16 j v) 21 i), .int (sI (upD σ 16 j v) 22 i), .int (sI (upD σ 16 j v) 23 i)] : List Value); rw [sD_n v q]; rfl) rfl
theorem stDelay_1 {cA : Nat → ClassId} {ad : Nat → Nat → Nat} {n : Nat} {σ : ST} {j : Nat} (h : j < 6) (v : UInt64) : (Wc cA ad n σ).set (25 + j) (ad 1 j, .inr (1, (flDelay ad σ j).set 1 (.double v))) = Wc cA ad n (upD σ 17 j v) := setDelay h rfl rfl rfl rfl (fun i _ => by
    by_cases q : i = j
    · subst q; rw [va_up_self]; show Sum.inr (1, (flDelay ad σ i).set 1 (.double v)) = Sum.inr (1, flDelay ad (upD σ 17 i v) i); refine congrArg _ (congrArg _ ?_); show _ = ([.double (sD (upD σ 17 i v) 16 i), .double (sD (upD σ 17 i v) 17 i), .int (sI (upD σ 17 i v) 18 i), .double (sD (upD σ 17 i v) 19 i), .int (sI (upD σ 17 i v) 20 i), .double (sD (upD σ 17 i v) 21 i), .int (sI (upD σ 17 i v) 22 i), .int (sI (upD σ 17 i v) 23 i)] : List Value); rw [sD_s]; rfl
    · rw [va_up_ne _ _ q]; show Sum.inr (1, flDelay ad σ i) = Sum.inr (1, flDelay ad (upD σ 17 j v) i); refine congrArg _ (congrArg _ ?_); show _ = ([.double (sD (upD σ 17 j v) 16 i), .double (sD (upD σ 17 j v) 17 i), .int (sI (upD σ 17 j v) 18 i), .double (sD (upD σ 17 j v) 19 i), .int (sI (upD σ 17 j v) 20 i), .double (sD (upD σ 17 j v) 21 i), .int (sI (upD σ 17 j v) 22 i), .int (sI (upD σ 17 j v) 23 i)] : List Value); rw [sD_n v q]; rfl) rfl
theorem stDelay_2 {cA : Nat → ClassId} {ad : Nat → Nat → Nat} {n : Nat} {σ : ST} {j : Nat} (h : j < 6) (v : Int32) : (Wc cA ad n σ).set (25 + j) (ad 1 j, .inr (1, (flDelay ad σ j).set 2 (.int v))) = Wc cA ad n (upI σ 18 j v) := setDelay h rfl rfl rfl rfl (fun i _ => by
    by_cases q : i = j
    · subst q; rw [va_up_self]; show Sum.inr (1, (flDelay ad σ i).set 2 (.int v)) = Sum.inr (1, flDelay ad (upI σ 18 i v) i); refine congrArg _ (congrArg _ ?_); show _ = ([.double (sD (upI σ 18 i v) 16 i), .double (sD (upI σ 18 i v) 17 i), .int (sI (upI σ 18 i v) 18 i), .double (sD (upI σ 18 i v) 19 i), .int (sI (upI σ 18 i v) 20 i), .double (sD (upI σ 18 i v) 21 i), .int (sI (upI σ 18 i v) 22 i), .int (sI (upI σ 18 i v) 23 i)] : List Value); rw [sI_s]; rfl
    · rw [va_up_ne _ _ q]; show Sum.inr (1, flDelay ad σ i) = Sum.inr (1, flDelay ad (upI σ 18 j v) i); refine congrArg _ (congrArg _ ?_); show _ = ([.double (sD (upI σ 18 j v) 16 i), .double (sD (upI σ 18 j v) 17 i), .int (sI (upI σ 18 j v) 18 i), .double (sD (upI σ 18 j v) 19 i), .int (sI (upI σ 18 j v) 20 i), .double (sD (upI σ 18 j v) 21 i), .int (sI (upI σ 18 j v) 22 i), .int (sI (upI σ 18 j v) 23 i)] : List Value); rw [sI_n v q]; rfl) rfl
theorem stDelay_3 {cA : Nat → ClassId} {ad : Nat → Nat → Nat} {n : Nat} {σ : ST} {j : Nat} (h : j < 6) (v : UInt64) : (Wc cA ad n σ).set (25 + j) (ad 1 j, .inr (1, (flDelay ad σ j).set 3 (.double v))) = Wc cA ad n (upD σ 19 j v) := setDelay h rfl rfl rfl rfl (fun i _ => by
    by_cases q : i = j
    · subst q; rw [va_up_self]; show Sum.inr (1, (flDelay ad σ i).set 3 (.double v)) = Sum.inr (1, flDelay ad (upD σ 19 i v) i); refine congrArg _ (congrArg _ ?_); show _ = ([.double (sD (upD σ 19 i v) 16 i), .double (sD (upD σ 19 i v) 17 i), .int (sI (upD σ 19 i v) 18 i), .double (sD (upD σ 19 i v) 19 i), .int (sI (upD σ 19 i v) 20 i), .double (sD (upD σ 19 i v) 21 i), .int (sI (upD σ 19 i v) 22 i), .int (sI (upD σ 19 i v) 23 i)] : List Value); rw [sD_s]; rfl
    · rw [va_up_ne _ _ q]; show Sum.inr (1, flDelay ad σ i) = Sum.inr (1, flDelay ad (upD σ 19 j v) i); refine congrArg _ (congrArg _ ?_); show _ = ([.double (sD (upD σ 19 j v) 16 i), .double (sD (upD σ 19 j v) 17 i), .int (sI (upD σ 19 j v) 18 i), .double (sD (upD σ 19 j v) 19 i), .int (sI (upD σ 19 j v) 20 i), .double (sD (upD σ 19 j v) 21 i), .int (sI (upD σ 19 j v) 22 i), .int (sI (upD σ 19 j v) 23 i)] : List Value); rw [sD_n v q]; rfl) rfl
theorem stDelay_4 {cA : Nat → ClassId} {ad : Nat → Nat → Nat} {n : Nat} {σ : ST} {j : Nat} (h : j < 6) (v : Int32) : (Wc cA ad n σ).set (25 + j) (ad 1 j, .inr (1, (flDelay ad σ j).set 4 (.int v))) = Wc cA ad n (upI σ 20 j v) := setDelay h rfl rfl rfl rfl (fun i _ => by
    by_cases q : i = j
    · subst q; rw [va_up_self]; show Sum.inr (1, (flDelay ad σ i).set 4 (.int v)) = Sum.inr (1, flDelay ad (upI σ 20 i v) i); refine congrArg _ (congrArg _ ?_); show _ = ([.double (sD (upI σ 20 i v) 16 i), .double (sD (upI σ 20 i v) 17 i), .int (sI (upI σ 20 i v) 18 i), .double (sD (upI σ 20 i v) 19 i), .int (sI (upI σ 20 i v) 20 i), .double (sD (upI σ 20 i v) 21 i), .int (sI (upI σ 20 i v) 22 i), .int (sI (upI σ 20 i v) 23 i)] : List Value); rw [sI_s]; rfl
    · rw [va_up_ne _ _ q]; show Sum.inr (1, flDelay ad σ i) = Sum.inr (1, flDelay ad (upI σ 20 j v) i); refine congrArg _ (congrArg _ ?_); show _ = ([.double (sD (upI σ 20 j v) 16 i), .double (sD (upI σ 20 j v) 17 i), .int (sI (upI σ 20 j v) 18 i), .double (sD (upI σ 20 j v) 19 i), .int (sI (upI σ 20 j v) 20 i), .double (sD (upI σ 20 j v) 21 i), .int (sI (upI σ 20 j v) 22 i), .int (sI (upI σ 20 j v) 23 i)] : List Value); rw [sI_n v q]; rfl) rfl
theorem stDelay_5 {cA : Nat → ClassId} {ad : Nat → Nat → Nat} {n : Nat} {σ : ST} {j : Nat} (h : j < 6) (v : UInt64) : (Wc cA ad n σ).set (25 + j) (ad 1 j, .inr (1, (flDelay ad σ j).set 5 (.double v))) = Wc cA ad n (upD σ 21 j v) := setDelay h rfl rfl rfl rfl (fun i _ => by
    by_cases q : i = j
    · subst q; rw [va_up_self]; show Sum.inr (1, (flDelay ad σ i).set 5 (.double v)) = Sum.inr (1, flDelay ad (upD σ 21 i v) i); refine congrArg _ (congrArg _ ?_); show _ = ([.double (sD (upD σ 21 i v) 16 i), .double (sD (upD σ 21 i v) 17 i), .int (sI (upD σ 21 i v) 18 i), .double (sD (upD σ 21 i v) 19 i), .int (sI (upD σ 21 i v) 20 i), .double (sD (upD σ 21 i v) 21 i), .int (sI (upD σ 21 i v) 22 i), .int (sI (upD σ 21 i v) 23 i)] : List Value); rw [sD_s]; rfl
    · rw [va_up_ne _ _ q]; show Sum.inr (1, flDelay ad σ i) = Sum.inr (1, flDelay ad (upD σ 21 j v) i); refine congrArg _ (congrArg _ ?_); show _ = ([.double (sD (upD σ 21 j v) 16 i), .double (sD (upD σ 21 j v) 17 i), .int (sI (upD σ 21 j v) 18 i), .double (sD (upD σ 21 j v) 19 i), .int (sI (upD σ 21 j v) 20 i), .double (sD (upD σ 21 j v) 21 i), .int (sI (upD σ 21 j v) 22 i), .int (sI (upD σ 21 j v) 23 i)] : List Value); rw [sD_n v q]; rfl) rfl
theorem stDelay_6 {cA : Nat → ClassId} {ad : Nat → Nat → Nat} {n : Nat} {σ : ST} {j : Nat} (h : j < 6) (v : Int32) : (Wc cA ad n σ).set (25 + j) (ad 1 j, .inr (1, (flDelay ad σ j).set 6 (.int v))) = Wc cA ad n (upI σ 22 j v) := setDelay h rfl rfl rfl rfl (fun i _ => by
    by_cases q : i = j
    · subst q; rw [va_up_self]; show Sum.inr (1, (flDelay ad σ i).set 6 (.int v)) = Sum.inr (1, flDelay ad (upI σ 22 i v) i); refine congrArg _ (congrArg _ ?_); show _ = ([.double (sD (upI σ 22 i v) 16 i), .double (sD (upI σ 22 i v) 17 i), .int (sI (upI σ 22 i v) 18 i), .double (sD (upI σ 22 i v) 19 i), .int (sI (upI σ 22 i v) 20 i), .double (sD (upI σ 22 i v) 21 i), .int (sI (upI σ 22 i v) 22 i), .int (sI (upI σ 22 i v) 23 i)] : List Value); rw [sI_s]; rfl
    · rw [va_up_ne _ _ q]; show Sum.inr (1, flDelay ad σ i) = Sum.inr (1, flDelay ad (upI σ 22 j v) i); refine congrArg _ (congrArg _ ?_); show _ = ([.double (sD (upI σ 22 j v) 16 i), .double (sD (upI σ 22 j v) 17 i), .int (sI (upI σ 22 j v) 18 i), .double (sD (upI σ 22 j v) 19 i), .int (sI (upI σ 22 j v) 20 i), .double (sD (upI σ 22 j v) 21 i), .int (sI (upI σ 22 j v) 22 i), .int (sI (upI σ 22 j v) 23 i)] : List Value); rw [sI_n v q]; rfl) rfl
theorem stDelay_7 {cA : Nat → ClassId} {ad : Nat → Nat → Nat} {n : Nat} {σ : ST} {j : Nat} (h : j < 6) (v : Int32) : (Wc cA ad n σ).set (25 + j) (ad 1 j, .inr (1, (flDelay ad σ j).set 7 (.int v))) = Wc cA ad n (upI σ 23 j v) := setDelay h rfl rfl rfl rfl (fun i _ => by
    by_cases q : i = j
    · subst q; rw [va_up_self]; show Sum.inr (1, (flDelay ad σ i).set 7 (.int v)) = Sum.inr (1, flDelay ad (upI σ 23 i v) i); refine congrArg _ (congrArg _ ?_); show _ = ([.double (sD (upI σ 23 i v) 16 i), .double (sD (upI σ 23 i v) 17 i), .int (sI (upI σ 23 i v) 18 i), .double (sD (upI σ 23 i v) 19 i), .int (sI (upI σ 23 i v) 20 i), .double (sD (upI σ 23 i v) 21 i), .int (sI (upI σ 23 i v) 22 i), .int (sI (upI σ 23 i v) 23 i)] : List Value); rw [sI_s]; rfl
    · rw [va_up_ne _ _ q]; show Sum.inr (1, flDelay ad σ i) = Sum.inr (1, flDelay ad (upI σ 23 j v) i); refine congrArg _ (congrArg _ ?_); show _ = ([.double (sD (upI σ 23 j v) 16 i), .double (sD (upI σ 23 j v) 17 i), .int (sI (upI σ 23 j v) 18 i), .double (sD (upI σ 23 j v) 19 i), .int (sI (upI σ 23 j v) 20 i), .double (sD (upI σ 23 j v) 21 i), .int (sI (upI σ 23 j v) 22 i), .int (sI (upI σ 23 j v) 23 i)] : List Value); rw [sI_n v q]; rfl) rfl
theorem stPacket_0 {cA : Nat → ClassId} {ad : Nat → Nat → Nat} {n : Nat} {σ : ST} {j : Nat} (h : j < n) (v : Int32) : (Wc cA ad n σ).set (31 + j) (ad 5 j, .inr (5, (flPacket ad σ j).set 0 (.int v))) = Wc cA ad n (upI σ 80 j v) := setPacket h rfl rfl rfl rfl rfl (fun i _ => by
    by_cases q : i = j
    · subst q; rw [va_up_self]; show Sum.inr (5, (flPacket ad σ i).set 0 (.int v)) = Sum.inr (5, flPacket ad (upI σ 80 i v) i); refine congrArg _ (congrArg _ ?_); show _ = ([.int (sI (upI σ 80 i v) 80 i), va_re (ad 2) (sR (upI σ 80 i v) 81 i), .int (sI (upI σ 80 i v) 82 i), .int (sI (upI σ 80 i v) 83 i), .int (sI (upI σ 80 i v) 84 i), .int (sI (upI σ 80 i v) 85 i), .int (sI (upI σ 80 i v) 86 i), va_re (ad 5) (sR (upI σ 80 i v) 87 i)] : List Value); rw [sI_s]; rfl
    · rw [va_up_ne _ _ q]; show Sum.inr (5, flPacket ad σ i) = Sum.inr (5, flPacket ad (upI σ 80 j v) i); refine congrArg _ (congrArg _ ?_); show _ = ([.int (sI (upI σ 80 j v) 80 i), va_re (ad 2) (sR (upI σ 80 j v) 81 i), .int (sI (upI σ 80 j v) 82 i), .int (sI (upI σ 80 j v) 83 i), .int (sI (upI σ 80 j v) 84 i), .int (sI (upI σ 80 j v) 85 i), .int (sI (upI σ 80 j v) 86 i), va_re (ad 5) (sR (upI σ 80 j v) 87 i)] : List Value); rw [sI_n v q]; rfl)
theorem stPacket_1 {cA : Nat → ClassId} {ad : Nat → Nat → Nat} {n : Nat} {σ : ST} {j : Nat} (h : j < n) (v : Option Nat) : (Wc cA ad n σ).set (31 + j) (ad 5 j, .inr (5, (flPacket ad σ j).set 1 (va_re (ad 2) v))) = Wc cA ad n (upR σ 81 j v) := setPacket h rfl rfl rfl rfl rfl (fun i _ => by
    by_cases q : i = j
    · subst q; rw [va_up_self]; show Sum.inr (5, (flPacket ad σ i).set 1 (va_re (ad 2) v)) = Sum.inr (5, flPacket ad (upR σ 81 i v) i); refine congrArg _ (congrArg _ ?_); show _ = ([.int (sI (upR σ 81 i v) 80 i), va_re (ad 2) (sR (upR σ 81 i v) 81 i), .int (sI (upR σ 81 i v) 82 i), .int (sI (upR σ 81 i v) 83 i), .int (sI (upR σ 81 i v) 84 i), .int (sI (upR σ 81 i v) 85 i), .int (sI (upR σ 81 i v) 86 i), va_re (ad 5) (sR (upR σ 81 i v) 87 i)] : List Value); rw [sR_s]; rfl
    · rw [va_up_ne _ _ q]; show Sum.inr (5, flPacket ad σ i) = Sum.inr (5, flPacket ad (upR σ 81 j v) i); refine congrArg _ (congrArg _ ?_); show _ = ([.int (sI (upR σ 81 j v) 80 i), va_re (ad 2) (sR (upR σ 81 j v) 81 i), .int (sI (upR σ 81 j v) 82 i), .int (sI (upR σ 81 j v) 83 i), .int (sI (upR σ 81 j v) 84 i), .int (sI (upR σ 81 j v) 85 i), .int (sI (upR σ 81 j v) 86 i), va_re (ad 5) (sR (upR σ 81 j v) 87 i)] : List Value); rw [sR_n v q]; rfl)
theorem stPacket_2 {cA : Nat → ClassId} {ad : Nat → Nat → Nat} {n : Nat} {σ : ST} {j : Nat} (h : j < n) (v : Int32) : (Wc cA ad n σ).set (31 + j) (ad 5 j, .inr (5, (flPacket ad σ j).set 2 (.int v))) = Wc cA ad n (upI σ 82 j v) := setPacket h rfl rfl rfl rfl rfl (fun i _ => by
    by_cases q : i = j
    · subst q; rw [va_up_self]; show Sum.inr (5, (flPacket ad σ i).set 2 (.int v)) = Sum.inr (5, flPacket ad (upI σ 82 i v) i); refine congrArg _ (congrArg _ ?_); show _ = ([.int (sI (upI σ 82 i v) 80 i), va_re (ad 2) (sR (upI σ 82 i v) 81 i), .int (sI (upI σ 82 i v) 82 i), .int (sI (upI σ 82 i v) 83 i), .int (sI (upI σ 82 i v) 84 i), .int (sI (upI σ 82 i v) 85 i), .int (sI (upI σ 82 i v) 86 i), va_re (ad 5) (sR (upI σ 82 i v) 87 i)] : List Value); rw [sI_s]; rfl
    · rw [va_up_ne _ _ q]; show Sum.inr (5, flPacket ad σ i) = Sum.inr (5, flPacket ad (upI σ 82 j v) i); refine congrArg _ (congrArg _ ?_); show _ = ([.int (sI (upI σ 82 j v) 80 i), va_re (ad 2) (sR (upI σ 82 j v) 81 i), .int (sI (upI σ 82 j v) 82 i), .int (sI (upI σ 82 j v) 83 i), .int (sI (upI σ 82 j v) 84 i), .int (sI (upI σ 82 j v) 85 i), .int (sI (upI σ 82 j v) 86 i), va_re (ad 5) (sR (upI σ 82 j v) 87 i)] : List Value); rw [sI_n v q]; rfl)
theorem stPacket_3 {cA : Nat → ClassId} {ad : Nat → Nat → Nat} {n : Nat} {σ : ST} {j : Nat} (h : j < n) (v : Int32) : (Wc cA ad n σ).set (31 + j) (ad 5 j, .inr (5, (flPacket ad σ j).set 3 (.int v))) = Wc cA ad n (upI σ 83 j v) := setPacket h rfl rfl rfl rfl rfl (fun i _ => by
    by_cases q : i = j
    · subst q; rw [va_up_self]; show Sum.inr (5, (flPacket ad σ i).set 3 (.int v)) = Sum.inr (5, flPacket ad (upI σ 83 i v) i); refine congrArg _ (congrArg _ ?_); show _ = ([.int (sI (upI σ 83 i v) 80 i), va_re (ad 2) (sR (upI σ 83 i v) 81 i), .int (sI (upI σ 83 i v) 82 i), .int (sI (upI σ 83 i v) 83 i), .int (sI (upI σ 83 i v) 84 i), .int (sI (upI σ 83 i v) 85 i), .int (sI (upI σ 83 i v) 86 i), va_re (ad 5) (sR (upI σ 83 i v) 87 i)] : List Value); rw [sI_s]; rfl
    · rw [va_up_ne _ _ q]; show Sum.inr (5, flPacket ad σ i) = Sum.inr (5, flPacket ad (upI σ 83 j v) i); refine congrArg _ (congrArg _ ?_); show _ = ([.int (sI (upI σ 83 j v) 80 i), va_re (ad 2) (sR (upI σ 83 j v) 81 i), .int (sI (upI σ 83 j v) 82 i), .int (sI (upI σ 83 j v) 83 i), .int (sI (upI σ 83 j v) 84 i), .int (sI (upI σ 83 j v) 85 i), .int (sI (upI σ 83 j v) 86 i), va_re (ad 5) (sR (upI σ 83 j v) 87 i)] : List Value); rw [sI_n v q]; rfl)
theorem stPacket_4 {cA : Nat → ClassId} {ad : Nat → Nat → Nat} {n : Nat} {σ : ST} {j : Nat} (h : j < n) (v : Int32) : (Wc cA ad n σ).set (31 + j) (ad 5 j, .inr (5, (flPacket ad σ j).set 4 (.int v))) = Wc cA ad n (upI σ 84 j v) := setPacket h rfl rfl rfl rfl rfl (fun i _ => by
    by_cases q : i = j
    · subst q; rw [va_up_self]; show Sum.inr (5, (flPacket ad σ i).set 4 (.int v)) = Sum.inr (5, flPacket ad (upI σ 84 i v) i); refine congrArg _ (congrArg _ ?_); show _ = ([.int (sI (upI σ 84 i v) 80 i), va_re (ad 2) (sR (upI σ 84 i v) 81 i), .int (sI (upI σ 84 i v) 82 i), .int (sI (upI σ 84 i v) 83 i), .int (sI (upI σ 84 i v) 84 i), .int (sI (upI σ 84 i v) 85 i), .int (sI (upI σ 84 i v) 86 i), va_re (ad 5) (sR (upI σ 84 i v) 87 i)] : List Value); rw [sI_s]; rfl
    · rw [va_up_ne _ _ q]; show Sum.inr (5, flPacket ad σ i) = Sum.inr (5, flPacket ad (upI σ 84 j v) i); refine congrArg _ (congrArg _ ?_); show _ = ([.int (sI (upI σ 84 j v) 80 i), va_re (ad 2) (sR (upI σ 84 j v) 81 i), .int (sI (upI σ 84 j v) 82 i), .int (sI (upI σ 84 j v) 83 i), .int (sI (upI σ 84 j v) 84 i), .int (sI (upI σ 84 j v) 85 i), .int (sI (upI σ 84 j v) 86 i), va_re (ad 5) (sR (upI σ 84 j v) 87 i)] : List Value); rw [sI_n v q]; rfl)
theorem stPacket_5 {cA : Nat → ClassId} {ad : Nat → Nat → Nat} {n : Nat} {σ : ST} {j : Nat} (h : j < n) (v : Int32) : (Wc cA ad n σ).set (31 + j) (ad 5 j, .inr (5, (flPacket ad σ j).set 5 (.int v))) = Wc cA ad n (upI σ 85 j v) := setPacket h rfl rfl rfl rfl rfl (fun i _ => by
    by_cases q : i = j
    · subst q; rw [va_up_self]; show Sum.inr (5, (flPacket ad σ i).set 5 (.int v)) = Sum.inr (5, flPacket ad (upI σ 85 i v) i); refine congrArg _ (congrArg _ ?_); show _ = ([.int (sI (upI σ 85 i v) 80 i), va_re (ad 2) (sR (upI σ 85 i v) 81 i), .int (sI (upI σ 85 i v) 82 i), .int (sI (upI σ 85 i v) 83 i), .int (sI (upI σ 85 i v) 84 i), .int (sI (upI σ 85 i v) 85 i), .int (sI (upI σ 85 i v) 86 i), va_re (ad 5) (sR (upI σ 85 i v) 87 i)] : List Value); rw [sI_s]; rfl
    · rw [va_up_ne _ _ q]; show Sum.inr (5, flPacket ad σ i) = Sum.inr (5, flPacket ad (upI σ 85 j v) i); refine congrArg _ (congrArg _ ?_); show _ = ([.int (sI (upI σ 85 j v) 80 i), va_re (ad 2) (sR (upI σ 85 j v) 81 i), .int (sI (upI σ 85 j v) 82 i), .int (sI (upI σ 85 j v) 83 i), .int (sI (upI σ 85 j v) 84 i), .int (sI (upI σ 85 j v) 85 i), .int (sI (upI σ 85 j v) 86 i), va_re (ad 5) (sR (upI σ 85 j v) 87 i)] : List Value); rw [sI_n v q]; rfl)
theorem stPacket_6 {cA : Nat → ClassId} {ad : Nat → Nat → Nat} {n : Nat} {σ : ST} {j : Nat} (h : j < n) (v : Int32) : (Wc cA ad n σ).set (31 + j) (ad 5 j, .inr (5, (flPacket ad σ j).set 6 (.int v))) = Wc cA ad n (upI σ 86 j v) := setPacket h rfl rfl rfl rfl rfl (fun i _ => by
    by_cases q : i = j
    · subst q; rw [va_up_self]; show Sum.inr (5, (flPacket ad σ i).set 6 (.int v)) = Sum.inr (5, flPacket ad (upI σ 86 i v) i); refine congrArg _ (congrArg _ ?_); show _ = ([.int (sI (upI σ 86 i v) 80 i), va_re (ad 2) (sR (upI σ 86 i v) 81 i), .int (sI (upI σ 86 i v) 82 i), .int (sI (upI σ 86 i v) 83 i), .int (sI (upI σ 86 i v) 84 i), .int (sI (upI σ 86 i v) 85 i), .int (sI (upI σ 86 i v) 86 i), va_re (ad 5) (sR (upI σ 86 i v) 87 i)] : List Value); rw [sI_s]; rfl
    · rw [va_up_ne _ _ q]; show Sum.inr (5, flPacket ad σ i) = Sum.inr (5, flPacket ad (upI σ 86 j v) i); refine congrArg _ (congrArg _ ?_); show _ = ([.int (sI (upI σ 86 j v) 80 i), va_re (ad 2) (sR (upI σ 86 j v) 81 i), .int (sI (upI σ 86 j v) 82 i), .int (sI (upI σ 86 j v) 83 i), .int (sI (upI σ 86 j v) 84 i), .int (sI (upI σ 86 j v) 85 i), .int (sI (upI σ 86 j v) 86 i), va_re (ad 5) (sR (upI σ 86 j v) 87 i)] : List Value); rw [sI_n v q]; rfl)
theorem stPacket_7 {cA : Nat → ClassId} {ad : Nat → Nat → Nat} {n : Nat} {σ : ST} {j : Nat} (h : j < n) (v : Option Nat) : (Wc cA ad n σ).set (31 + j) (ad 5 j, .inr (5, (flPacket ad σ j).set 7 (va_re (ad 5) v))) = Wc cA ad n (upR σ 87 j v) := setPacket h rfl rfl rfl rfl rfl (fun i _ => by
    by_cases q : i = j
    · subst q; rw [va_up_self]; show Sum.inr (5, (flPacket ad σ i).set 7 (va_re (ad 5) v)) = Sum.inr (5, flPacket ad (upR σ 87 i v) i); refine congrArg _ (congrArg _ ?_); show _ = ([.int (sI (upR σ 87 i v) 80 i), va_re (ad 2) (sR (upR σ 87 i v) 81 i), .int (sI (upR σ 87 i v) 82 i), .int (sI (upR σ 87 i v) 83 i), .int (sI (upR σ 87 i v) 84 i), .int (sI (upR σ 87 i v) 85 i), .int (sI (upR σ 87 i v) 86 i), va_re (ad 5) (sR (upR σ 87 i v) 87 i)] : List Value); rw [sR_s]; rfl
    · rw [va_up_ne _ _ q]; show Sum.inr (5, flPacket ad σ i) = Sum.inr (5, flPacket ad (upR σ 87 j v) i); refine congrArg _ (congrArg _ ?_); show _ = ([.int (sI (upR σ 87 j v) 80 i), va_re (ad 2) (sR (upR σ 87 j v) 81 i), .int (sI (upR σ 87 j v) 82 i), .int (sI (upR σ 87 j v) 83 i), .int (sI (upR σ 87 j v) 84 i), .int (sI (upR σ 87 j v) 85 i), .int (sI (upR σ 87 j v) 86 i), va_re (ad 5) (sR (upR σ 87 j v) 87 i)] : List Value); rw [sR_n v q]; rfl)
theorem stLq_4 {cA : Nat → ClassId} {ad : Nat → Nat → Nat} {n : Nat} {σ : ST} (v : Int32) : (Wc cA ad n σ).set 0 (ad 8 0, .inr (8, (flLq ad σ 0).set 4 (.int v))) = Wc cA ad n (upI σ 132 0 v) := rfl
theorem stLq_5 {cA : Nat → ClassId} {ad : Nat → Nat → Nat} {n : Nat} {σ : ST} (v : Int32) : (Wc cA ad n σ).set 0 (ad 8 0, .inr (8, (flLq ad σ 0).set 5 (.int v))) = Wc cA ad n (upI σ 133 0 v) := rfl
theorem stLq_6 {cA : Nat → ClassId} {ad : Nat → Nat → Nat} {n : Nat} {σ : ST} (v : Int32) : (Wc cA ad n σ).set 0 (ad 8 0, .inr (8, (flLq ad σ 0).set 6 (.int v))) = Wc cA ad n (upI σ 134 0 v) := rfl
theorem stLq_7 {cA : Nat → ClassId} {ad : Nat → Nat → Nat} {n : Nat} {σ : ST} (v : Int32) : (Wc cA ad n σ).set 0 (ad 8 0, .inr (8, (flLq ad σ 0).set 7 (.int v))) = Wc cA ad n (upI σ 135 0 v) := rfl
theorem stLq_8 {cA : Nat → ClassId} {ad : Nat → Nat → Nat} {n : Nat} {σ : ST} (v : Int32) : (Wc cA ad n σ).set 0 (ad 8 0, .inr (8, (flLq ad σ 0).set 8 (.int v))) = Wc cA ad n (upI σ 136 0 v) := rfl
theorem stLq_9 {cA : Nat → ClassId} {ad : Nat → Nat → Nat} {n : Nat} {σ : ST} (v : UInt64) : (Wc cA ad n σ).set 0 (ad 8 0, .inr (8, (flLq ad σ 0).set 9 (.double v))) = Wc cA ad n (upD σ 137 0 v) := rfl
theorem stLq_10 {cA : Nat → ClassId} {ad : Nat → Nat → Nat} {n : Nat} {σ : ST} (v : UInt64) : (Wc cA ad n σ).set 0 (ad 8 0, .inr (8, (flLq ad σ 0).set 10 (.double v))) = Wc cA ad n (upD σ 138 0 v) := rfl
theorem stTurns_0 {cA : Nat → ClassId} {ad : Nat → Nat → Nat} {n : Nat} {σ : ST} (v : Option Nat) : (Wc cA ad n σ).set 2 (ad 7 0, .inr (7, (flTurns ad σ 0).set 0 (va_re (ad 2) v))) = Wc cA ad n (upR σ 112 0 v) := rfl
theorem stTurns_1 {cA : Nat → ClassId} {ad : Nat → Nat → Nat} {n : Nat} {σ : ST} (v : Option Nat) : (Wc cA ad n σ).set 2 (ad 7 0, .inr (7, (flTurns ad σ 0).set 1 (va_re (ad 2) v))) = Wc cA ad n (upR σ 113 0 v) := rfl
theorem stTurns_2 {cA : Nat → ClassId} {ad : Nat → Nat → Nat} {n : Nat} {σ : ST} (v : Int32) : (Wc cA ad n σ).set 2 (ad 7 0, .inr (7, (flTurns ad σ 0).set 2 (.int v))) = Wc cA ad n (upI σ 114 0 v) := rfl
theorem stCoins_1 {cA : Nat → ClassId} {ad : Nat → Nat → Nat} {n : Nat} {σ : ST} (v : Int32) : (Wc cA ad n σ).set 3 (ad 0 0, .inr (0, (flCoins ad σ 0).set 1 (.int v))) = Wc cA ad n (upI σ 1 0 v) := rfl
theorem stCoins_2 {cA : Nat → ClassId} {ad : Nat → Nat → Nat} {n : Nat} {σ : ST} (v : Int32) : (Wc cA ad n σ).set 3 (ad 0 0, .inr (0, (flCoins ad σ 0).set 2 (.int v))) = Wc cA ad n (upI σ 2 0 v) := rfl
theorem stOutlog_1 {cA : Nat → ClassId} {ad : Nat → Nat → Nat} {n : Nat} {σ : ST} (v : Int32) : (Wc cA ad n σ).set 5 (ad 4 0, .inr (4, (flOutlog ad σ 0).set 1 (.int v))) = Wc cA ad n (upI σ 65 0 v) := rfl
theorem st_r10 {cA : Nat → ClassId} {ad : Nat → Nat → Nat} {n : Nat} {σ : ST} (v : UInt64) (i : Nat) : (Wc cA ad n σ).set 4 (ad 10 0, .inl (cA 0, 64, .inr (.inr (.inr (.inl (vf_upd (fun k => sD σ 0 k) i v)))))) = Wc cA ad n (upD σ 0 i v) := by
  have e : vf_upd (fun k => sD σ 0 k) i v = fun k => sD (upD σ 0 i v) 0 k := by
    funext k
    rw [sD_upD]
    unfold vf_upd
    by_cases q : k = i
    · rw [if_pos q, if_pos ⟨rfl, q⟩]
    · rw [if_neg q, if_neg (fun z => q z.2)]
  rw [e]
  rfl
theorem st_r11 {cA : Nat → ClassId} {ad : Nat → Nat → Nat} {n : Nat} {σ : ST} (v : Nat) (i : Nat) : (Wc cA ad n σ).set 6 (ad 11 0, .inl (cA 4, 32, .inr (.inr (.inr (.inr (va_up (fun k => (sR σ 64 k).map (ad 5)) i (some (ad 5 v)))))))) = Wc cA ad n (upR σ 64 i (some v)) := by
  have e : va_up (fun k => (sR σ 64 k).map (ad 5)) i (some (ad 5 v)) = fun k => (sR (upR σ 64 i (some v)) 64 k).map (ad 5) := by
    funext k
    rw [sR_upR]
    unfold va_up
    by_cases q : k = i
    · rw [if_pos q, if_pos ⟨rfl, q⟩]; rfl
    · rw [if_neg q, if_neg (fun z => q z.2)]
  rw [e]
  rfl
def flModel (ad : Nat → Nat → Nat) (σ : ST) : List Value := [.int (sI σ 1000 0), .int (sI σ 1001 0), .int (sI σ 1002 0), .double (sD σ 1003 0), .int (sI σ 1004 0), .double (sD σ 1005 0), .ref (ad 106 0), .ref (ad 107 0), .ref (ad 108 0), .ref (ad 109 0), .ref (ad 110 0), .ref (ad 111 0), .ref (ad 112 0), .ref (ad 113 0), .ref (ad 114 0), .ref (ad 115 0), .ref (ad 116 0), .ref (ad 117 0), .ref (ad 118 0), .ref (ad 119 0), .ref (ad 120 0), .ref (ad 121 0), .ref (ad 122 0), .ref (ad 123 0), .ref (ad 124 0), .ref (ad 125 0), .ref (ad 126 0), .ref (ad 127 0), .ref (ad 128 0), .ref (ad 129 0), .int (sI σ 1030 0), .ref (ad 131 0), .ref (ad 132 0), .int (sI σ 1033 0), .int (sI σ 1034 0), .ref (ad 135 0), .int (sI σ 1036 0), .ref (ad 137 0), .int (sI σ 1038 0), .int (sI σ 1039 0), .int (sI σ 1040 0), .int (sI σ 1041 0), .int (sI σ 1042 0)]
def Wm (cA : Nat → ClassId) (ad : Nat → Nat → Nat) (σ : ST) : va_W := [(ad 9 0, .inr (9, flModel ad σ)), (ad 106 0, .inl (cA 1, 6, .inl (fun i => sI σ 1006 i))), (ad 107 0, .inl (cA 1, 6, .inl (fun i => sI σ 1007 i))), (ad 108 0, .inl (cA 0, 6, .inr (.inr (.inr (.inl (fun i => sD σ 1008 i)))))), (ad 109 0, .inl (cA 0, 6, .inr (.inr (.inr (.inl (fun i => sD σ 1009 i)))))), (ad 110 0, .inl (cA 0, 6, .inr (.inr (.inr (.inl (fun i => sD σ 1010 i)))))), (ad 111 0, .inl (cA 0, 6, .inr (.inr (.inr (.inl (fun i => sD σ 1011 i)))))), (ad 112 0, .inl (cA 0, 6, .inr (.inr (.inr (.inl (fun i => sD σ 1012 i)))))), (ad 113 0, .inl (cA 1, 6, .inl (fun i => sI σ 1013 i))), (ad 114 0, .inl (cA 1, 6, .inl (fun i => sI σ 1014 i))), (ad 115 0, .inl (cA 0, 6, .inr (.inr (.inr (.inl (fun i => sD σ 1015 i)))))), (ad 116 0, .inl (cA 0, 6, .inr (.inr (.inr (.inl (fun i => sD σ 1016 i)))))), (ad 117 0, .inl (cA 0, 6, .inr (.inr (.inr (.inl (fun i => sD σ 1017 i)))))), (ad 118 0, .inl (cA 2, 6, .inl (fun i => sI σ 1018 i))), (ad 119 0, .inl (cA 2, 6, .inl (fun i => sI σ 1019 i))), (ad 120 0, .inl (cA 0, 6, .inr (.inr (.inr (.inl (fun i => sD σ 1020 i)))))), (ad 121 0, .inl (cA 1, 6, .inl (fun i => sI σ 1021 i))), (ad 122 0, .inl (cA 1, 6, .inl (fun i => sI σ 1022 i))), (ad 123 0, .inl (cA 1, 6, .inl (fun i => sI σ 1023 i))), (ad 124 0, .inl (cA 1, 600, .inl (fun i => sI σ 1024 i))), (ad 125 0, .inl (cA 1, 600, .inl (fun i => sI σ 1025 i))), (ad 126 0, .inl (cA 1, 600, .inl (fun i => sI σ 1026 i))), (ad 127 0, .inl (cA 2, 600, .inl (fun i => sI σ 1027 i))), (ad 128 0, .inl (cA 2, 600, .inl (fun i => sI σ 1028 i))), (ad 129 0, .inl (cA 1, 60, .inl (fun i => sI σ 1029 i))), (ad 131 0, .inl (cA 1, 6, .inl (fun i => sI σ 1031 i))), (ad 132 0, .inl (cA 1, 6, .inl (fun i => sI σ 1032 i))), (ad 135 0, .inl (cA 0, 64, .inr (.inr (.inr (.inl (fun i => sD σ 1035 i)))))), (ad 137 0, .inl (cA 1, 160, .inl (fun i => sI σ 1037 i)))]
theorem atModel {cA : Nat → ClassId} {ad : Nat → Nat → Nat} {σ : ST} : (Wm cA ad σ)[0]? = some (ad 9 0, .inr (9, flModel ad σ)) := rfl
theorem atm6 {cA : Nat → ClassId} {ad : Nat → Nat → Nat} {σ : ST} : (Wm cA ad σ)[1]? = some (ad 106 0, .inl (cA 1, 6, .inl (fun i => sI σ 1006 i))) := rfl
theorem stm6 {cA : Nat → ClassId} {ad : Nat → Nat → Nat} {σ : ST} (v : Int32) (i : Nat) : (Wm cA ad σ).set 1 (ad 106 0, .inl (cA 1, 6, .inl (upd (fun i => sI σ 1006 i) i v))) = Wm cA ad (upI σ 1006 i v) := by
  have e : upd (fun i => sI σ 1006 i) i v = fun k => sI (upI σ 1006 i v) 1006 k := by
    funext k
    rw [sI_upI]
    unfold upd
    by_cases q : k = i
    · rw [if_pos q, if_pos ⟨rfl, q⟩]
    · rw [if_neg q, if_neg (fun z => q z.2)]
  rw [e]
  rfl
theorem atm7 {cA : Nat → ClassId} {ad : Nat → Nat → Nat} {σ : ST} : (Wm cA ad σ)[2]? = some (ad 107 0, .inl (cA 1, 6, .inl (fun i => sI σ 1007 i))) := rfl
theorem stm7 {cA : Nat → ClassId} {ad : Nat → Nat → Nat} {σ : ST} (v : Int32) (i : Nat) : (Wm cA ad σ).set 2 (ad 107 0, .inl (cA 1, 6, .inl (upd (fun i => sI σ 1007 i) i v))) = Wm cA ad (upI σ 1007 i v) := by
  have e : upd (fun i => sI σ 1007 i) i v = fun k => sI (upI σ 1007 i v) 1007 k := by
    funext k
    rw [sI_upI]
    unfold upd
    by_cases q : k = i
    · rw [if_pos q, if_pos ⟨rfl, q⟩]
    · rw [if_neg q, if_neg (fun z => q z.2)]
  rw [e]
  rfl
theorem atm8 {cA : Nat → ClassId} {ad : Nat → Nat → Nat} {σ : ST} : (Wm cA ad σ)[3]? = some (ad 108 0, .inl (cA 0, 6, .inr (.inr (.inr (.inl (fun i => sD σ 1008 i)))))) := rfl
theorem stm8 {cA : Nat → ClassId} {ad : Nat → Nat → Nat} {σ : ST} (v : UInt64) (i : Nat) : (Wm cA ad σ).set 3 (ad 108 0, .inl (cA 0, 6, .inr (.inr (.inr (.inl (vf_upd (fun i => sD σ 1008 i) i v)))))) = Wm cA ad (upD σ 1008 i v) := by
  have e : vf_upd (fun i => sD σ 1008 i) i v = fun k => sD (upD σ 1008 i v) 1008 k := by
    funext k
    rw [sD_upD]
    unfold vf_upd
    by_cases q : k = i
    · rw [if_pos q, if_pos ⟨rfl, q⟩]
    · rw [if_neg q, if_neg (fun z => q z.2)]
  rw [e]
  rfl
theorem atm9 {cA : Nat → ClassId} {ad : Nat → Nat → Nat} {σ : ST} : (Wm cA ad σ)[4]? = some (ad 109 0, .inl (cA 0, 6, .inr (.inr (.inr (.inl (fun i => sD σ 1009 i)))))) := rfl
theorem stm9 {cA : Nat → ClassId} {ad : Nat → Nat → Nat} {σ : ST} (v : UInt64) (i : Nat) : (Wm cA ad σ).set 4 (ad 109 0, .inl (cA 0, 6, .inr (.inr (.inr (.inl (vf_upd (fun i => sD σ 1009 i) i v)))))) = Wm cA ad (upD σ 1009 i v) := by
  have e : vf_upd (fun i => sD σ 1009 i) i v = fun k => sD (upD σ 1009 i v) 1009 k := by
    funext k
    rw [sD_upD]
    unfold vf_upd
    by_cases q : k = i
    · rw [if_pos q, if_pos ⟨rfl, q⟩]
    · rw [if_neg q, if_neg (fun z => q z.2)]
  rw [e]
  rfl
theorem atm10 {cA : Nat → ClassId} {ad : Nat → Nat → Nat} {σ : ST} : (Wm cA ad σ)[5]? = some (ad 110 0, .inl (cA 0, 6, .inr (.inr (.inr (.inl (fun i => sD σ 1010 i)))))) := rfl
theorem stm10 {cA : Nat → ClassId} {ad : Nat → Nat → Nat} {σ : ST} (v : UInt64) (i : Nat) : (Wm cA ad σ).set 5 (ad 110 0, .inl (cA 0, 6, .inr (.inr (.inr (.inl (vf_upd (fun i => sD σ 1010 i) i v)))))) = Wm cA ad (upD σ 1010 i v) := by
  have e : vf_upd (fun i => sD σ 1010 i) i v = fun k => sD (upD σ 1010 i v) 1010 k := by
    funext k
    rw [sD_upD]
    unfold vf_upd
    by_cases q : k = i
    · rw [if_pos q, if_pos ⟨rfl, q⟩]
    · rw [if_neg q, if_neg (fun z => q z.2)]
  rw [e]
  rfl
theorem atm11 {cA : Nat → ClassId} {ad : Nat → Nat → Nat} {σ : ST} : (Wm cA ad σ)[6]? = some (ad 111 0, .inl (cA 0, 6, .inr (.inr (.inr (.inl (fun i => sD σ 1011 i)))))) := rfl
theorem stm11 {cA : Nat → ClassId} {ad : Nat → Nat → Nat} {σ : ST} (v : UInt64) (i : Nat) : (Wm cA ad σ).set 6 (ad 111 0, .inl (cA 0, 6, .inr (.inr (.inr (.inl (vf_upd (fun i => sD σ 1011 i) i v)))))) = Wm cA ad (upD σ 1011 i v) := by
  have e : vf_upd (fun i => sD σ 1011 i) i v = fun k => sD (upD σ 1011 i v) 1011 k := by
    funext k
    rw [sD_upD]
    unfold vf_upd
    by_cases q : k = i
    · rw [if_pos q, if_pos ⟨rfl, q⟩]
    · rw [if_neg q, if_neg (fun z => q z.2)]
  rw [e]
  rfl
theorem atm12 {cA : Nat → ClassId} {ad : Nat → Nat → Nat} {σ : ST} : (Wm cA ad σ)[7]? = some (ad 112 0, .inl (cA 0, 6, .inr (.inr (.inr (.inl (fun i => sD σ 1012 i)))))) := rfl
theorem stm12 {cA : Nat → ClassId} {ad : Nat → Nat → Nat} {σ : ST} (v : UInt64) (i : Nat) : (Wm cA ad σ).set 7 (ad 112 0, .inl (cA 0, 6, .inr (.inr (.inr (.inl (vf_upd (fun i => sD σ 1012 i) i v)))))) = Wm cA ad (upD σ 1012 i v) := by
  have e : vf_upd (fun i => sD σ 1012 i) i v = fun k => sD (upD σ 1012 i v) 1012 k := by
    funext k
    rw [sD_upD]
    unfold vf_upd
    by_cases q : k = i
    · rw [if_pos q, if_pos ⟨rfl, q⟩]
    · rw [if_neg q, if_neg (fun z => q z.2)]
  rw [e]
  rfl
theorem atm13 {cA : Nat → ClassId} {ad : Nat → Nat → Nat} {σ : ST} : (Wm cA ad σ)[8]? = some (ad 113 0, .inl (cA 1, 6, .inl (fun i => sI σ 1013 i))) := rfl
theorem stm13 {cA : Nat → ClassId} {ad : Nat → Nat → Nat} {σ : ST} (v : Int32) (i : Nat) : (Wm cA ad σ).set 8 (ad 113 0, .inl (cA 1, 6, .inl (upd (fun i => sI σ 1013 i) i v))) = Wm cA ad (upI σ 1013 i v) := by
  have e : upd (fun i => sI σ 1013 i) i v = fun k => sI (upI σ 1013 i v) 1013 k := by
    funext k
    rw [sI_upI]
    unfold upd
    by_cases q : k = i
    · rw [if_pos q, if_pos ⟨rfl, q⟩]
    · rw [if_neg q, if_neg (fun z => q z.2)]
  rw [e]
  rfl
theorem atm14 {cA : Nat → ClassId} {ad : Nat → Nat → Nat} {σ : ST} : (Wm cA ad σ)[9]? = some (ad 114 0, .inl (cA 1, 6, .inl (fun i => sI σ 1014 i))) := rfl
theorem stm14 {cA : Nat → ClassId} {ad : Nat → Nat → Nat} {σ : ST} (v : Int32) (i : Nat) : (Wm cA ad σ).set 9 (ad 114 0, .inl (cA 1, 6, .inl (upd (fun i => sI σ 1014 i) i v))) = Wm cA ad (upI σ 1014 i v) := by
  have e : upd (fun i => sI σ 1014 i) i v = fun k => sI (upI σ 1014 i v) 1014 k := by
    funext k
    rw [sI_upI]
    unfold upd
    by_cases q : k = i
    · rw [if_pos q, if_pos ⟨rfl, q⟩]
    · rw [if_neg q, if_neg (fun z => q z.2)]
  rw [e]
  rfl
theorem atm15 {cA : Nat → ClassId} {ad : Nat → Nat → Nat} {σ : ST} : (Wm cA ad σ)[10]? = some (ad 115 0, .inl (cA 0, 6, .inr (.inr (.inr (.inl (fun i => sD σ 1015 i)))))) := rfl
theorem stm15 {cA : Nat → ClassId} {ad : Nat → Nat → Nat} {σ : ST} (v : UInt64) (i : Nat) : (Wm cA ad σ).set 10 (ad 115 0, .inl (cA 0, 6, .inr (.inr (.inr (.inl (vf_upd (fun i => sD σ 1015 i) i v)))))) = Wm cA ad (upD σ 1015 i v) := by
  have e : vf_upd (fun i => sD σ 1015 i) i v = fun k => sD (upD σ 1015 i v) 1015 k := by
    funext k
    rw [sD_upD]
    unfold vf_upd
    by_cases q : k = i
    · rw [if_pos q, if_pos ⟨rfl, q⟩]
    · rw [if_neg q, if_neg (fun z => q z.2)]
  rw [e]
  rfl
theorem atm16 {cA : Nat → ClassId} {ad : Nat → Nat → Nat} {σ : ST} : (Wm cA ad σ)[11]? = some (ad 116 0, .inl (cA 0, 6, .inr (.inr (.inr (.inl (fun i => sD σ 1016 i)))))) := rfl
theorem stm16 {cA : Nat → ClassId} {ad : Nat → Nat → Nat} {σ : ST} (v : UInt64) (i : Nat) : (Wm cA ad σ).set 11 (ad 116 0, .inl (cA 0, 6, .inr (.inr (.inr (.inl (vf_upd (fun i => sD σ 1016 i) i v)))))) = Wm cA ad (upD σ 1016 i v) := by
  have e : vf_upd (fun i => sD σ 1016 i) i v = fun k => sD (upD σ 1016 i v) 1016 k := by
    funext k
    rw [sD_upD]
    unfold vf_upd
    by_cases q : k = i
    · rw [if_pos q, if_pos ⟨rfl, q⟩]
    · rw [if_neg q, if_neg (fun z => q z.2)]
  rw [e]
  rfl
theorem atm17 {cA : Nat → ClassId} {ad : Nat → Nat → Nat} {σ : ST} : (Wm cA ad σ)[12]? = some (ad 117 0, .inl (cA 0, 6, .inr (.inr (.inr (.inl (fun i => sD σ 1017 i)))))) := rfl
theorem stm17 {cA : Nat → ClassId} {ad : Nat → Nat → Nat} {σ : ST} (v : UInt64) (i : Nat) : (Wm cA ad σ).set 12 (ad 117 0, .inl (cA 0, 6, .inr (.inr (.inr (.inl (vf_upd (fun i => sD σ 1017 i) i v)))))) = Wm cA ad (upD σ 1017 i v) := by
  have e : vf_upd (fun i => sD σ 1017 i) i v = fun k => sD (upD σ 1017 i v) 1017 k := by
    funext k
    rw [sD_upD]
    unfold vf_upd
    by_cases q : k = i
    · rw [if_pos q, if_pos ⟨rfl, q⟩]
    · rw [if_neg q, if_neg (fun z => q z.2)]
  rw [e]
  rfl
theorem atm18 {cA : Nat → ClassId} {ad : Nat → Nat → Nat} {σ : ST} : (Wm cA ad σ)[13]? = some (ad 118 0, .inl (cA 2, 6, .inl (fun i => sI σ 1018 i))) := rfl
theorem stm18 {cA : Nat → ClassId} {ad : Nat → Nat → Nat} {σ : ST} (v : Int32) (i : Nat) : (Wm cA ad σ).set 13 (ad 118 0, .inl (cA 2, 6, .inl (upd (fun i => sI σ 1018 i) i v))) = Wm cA ad (upI σ 1018 i v) := by
  have e : upd (fun i => sI σ 1018 i) i v = fun k => sI (upI σ 1018 i v) 1018 k := by
    funext k
    rw [sI_upI]
    unfold upd
    by_cases q : k = i
    · rw [if_pos q, if_pos ⟨rfl, q⟩]
    · rw [if_neg q, if_neg (fun z => q z.2)]
  rw [e]
  rfl
theorem atm19 {cA : Nat → ClassId} {ad : Nat → Nat → Nat} {σ : ST} : (Wm cA ad σ)[14]? = some (ad 119 0, .inl (cA 2, 6, .inl (fun i => sI σ 1019 i))) := rfl
theorem stm19 {cA : Nat → ClassId} {ad : Nat → Nat → Nat} {σ : ST} (v : Int32) (i : Nat) : (Wm cA ad σ).set 14 (ad 119 0, .inl (cA 2, 6, .inl (upd (fun i => sI σ 1019 i) i v))) = Wm cA ad (upI σ 1019 i v) := by
  have e : upd (fun i => sI σ 1019 i) i v = fun k => sI (upI σ 1019 i v) 1019 k := by
    funext k
    rw [sI_upI]
    unfold upd
    by_cases q : k = i
    · rw [if_pos q, if_pos ⟨rfl, q⟩]
    · rw [if_neg q, if_neg (fun z => q z.2)]
  rw [e]
  rfl
theorem atm20 {cA : Nat → ClassId} {ad : Nat → Nat → Nat} {σ : ST} : (Wm cA ad σ)[15]? = some (ad 120 0, .inl (cA 0, 6, .inr (.inr (.inr (.inl (fun i => sD σ 1020 i)))))) := rfl
theorem stm20 {cA : Nat → ClassId} {ad : Nat → Nat → Nat} {σ : ST} (v : UInt64) (i : Nat) : (Wm cA ad σ).set 15 (ad 120 0, .inl (cA 0, 6, .inr (.inr (.inr (.inl (vf_upd (fun i => sD σ 1020 i) i v)))))) = Wm cA ad (upD σ 1020 i v) := by
  have e : vf_upd (fun i => sD σ 1020 i) i v = fun k => sD (upD σ 1020 i v) 1020 k := by
    funext k
    rw [sD_upD]
    unfold vf_upd
    by_cases q : k = i
    · rw [if_pos q, if_pos ⟨rfl, q⟩]
    · rw [if_neg q, if_neg (fun z => q z.2)]
  rw [e]
  rfl
theorem atm21 {cA : Nat → ClassId} {ad : Nat → Nat → Nat} {σ : ST} : (Wm cA ad σ)[16]? = some (ad 121 0, .inl (cA 1, 6, .inl (fun i => sI σ 1021 i))) := rfl
theorem stm21 {cA : Nat → ClassId} {ad : Nat → Nat → Nat} {σ : ST} (v : Int32) (i : Nat) : (Wm cA ad σ).set 16 (ad 121 0, .inl (cA 1, 6, .inl (upd (fun i => sI σ 1021 i) i v))) = Wm cA ad (upI σ 1021 i v) := by
  have e : upd (fun i => sI σ 1021 i) i v = fun k => sI (upI σ 1021 i v) 1021 k := by
    funext k
    rw [sI_upI]
    unfold upd
    by_cases q : k = i
    · rw [if_pos q, if_pos ⟨rfl, q⟩]
    · rw [if_neg q, if_neg (fun z => q z.2)]
  rw [e]
  rfl
theorem atm22 {cA : Nat → ClassId} {ad : Nat → Nat → Nat} {σ : ST} : (Wm cA ad σ)[17]? = some (ad 122 0, .inl (cA 1, 6, .inl (fun i => sI σ 1022 i))) := rfl
theorem stm22 {cA : Nat → ClassId} {ad : Nat → Nat → Nat} {σ : ST} (v : Int32) (i : Nat) : (Wm cA ad σ).set 17 (ad 122 0, .inl (cA 1, 6, .inl (upd (fun i => sI σ 1022 i) i v))) = Wm cA ad (upI σ 1022 i v) := by
  have e : upd (fun i => sI σ 1022 i) i v = fun k => sI (upI σ 1022 i v) 1022 k := by
    funext k
    rw [sI_upI]
    unfold upd
    by_cases q : k = i
    · rw [if_pos q, if_pos ⟨rfl, q⟩]
    · rw [if_neg q, if_neg (fun z => q z.2)]
  rw [e]
  rfl
theorem atm23 {cA : Nat → ClassId} {ad : Nat → Nat → Nat} {σ : ST} : (Wm cA ad σ)[18]? = some (ad 123 0, .inl (cA 1, 6, .inl (fun i => sI σ 1023 i))) := rfl
theorem stm23 {cA : Nat → ClassId} {ad : Nat → Nat → Nat} {σ : ST} (v : Int32) (i : Nat) : (Wm cA ad σ).set 18 (ad 123 0, .inl (cA 1, 6, .inl (upd (fun i => sI σ 1023 i) i v))) = Wm cA ad (upI σ 1023 i v) := by
  have e : upd (fun i => sI σ 1023 i) i v = fun k => sI (upI σ 1023 i v) 1023 k := by
    funext k
    rw [sI_upI]
    unfold upd
    by_cases q : k = i
    · rw [if_pos q, if_pos ⟨rfl, q⟩]
    · rw [if_neg q, if_neg (fun z => q z.2)]
  rw [e]
  rfl
theorem atm24 {cA : Nat → ClassId} {ad : Nat → Nat → Nat} {σ : ST} : (Wm cA ad σ)[19]? = some (ad 124 0, .inl (cA 1, 600, .inl (fun i => sI σ 1024 i))) := rfl
theorem stm24 {cA : Nat → ClassId} {ad : Nat → Nat → Nat} {σ : ST} (v : Int32) (i : Nat) : (Wm cA ad σ).set 19 (ad 124 0, .inl (cA 1, 600, .inl (upd (fun i => sI σ 1024 i) i v))) = Wm cA ad (upI σ 1024 i v) := by
  have e : upd (fun i => sI σ 1024 i) i v = fun k => sI (upI σ 1024 i v) 1024 k := by
    funext k
    rw [sI_upI]
    unfold upd
    by_cases q : k = i
    · rw [if_pos q, if_pos ⟨rfl, q⟩]
    · rw [if_neg q, if_neg (fun z => q z.2)]
  rw [e]
  rfl
theorem atm25 {cA : Nat → ClassId} {ad : Nat → Nat → Nat} {σ : ST} : (Wm cA ad σ)[20]? = some (ad 125 0, .inl (cA 1, 600, .inl (fun i => sI σ 1025 i))) := rfl
theorem stm25 {cA : Nat → ClassId} {ad : Nat → Nat → Nat} {σ : ST} (v : Int32) (i : Nat) : (Wm cA ad σ).set 20 (ad 125 0, .inl (cA 1, 600, .inl (upd (fun i => sI σ 1025 i) i v))) = Wm cA ad (upI σ 1025 i v) := by
  have e : upd (fun i => sI σ 1025 i) i v = fun k => sI (upI σ 1025 i v) 1025 k := by
    funext k
    rw [sI_upI]
    unfold upd
    by_cases q : k = i
    · rw [if_pos q, if_pos ⟨rfl, q⟩]
    · rw [if_neg q, if_neg (fun z => q z.2)]
  rw [e]
  rfl
theorem atm26 {cA : Nat → ClassId} {ad : Nat → Nat → Nat} {σ : ST} : (Wm cA ad σ)[21]? = some (ad 126 0, .inl (cA 1, 600, .inl (fun i => sI σ 1026 i))) := rfl
theorem stm26 {cA : Nat → ClassId} {ad : Nat → Nat → Nat} {σ : ST} (v : Int32) (i : Nat) : (Wm cA ad σ).set 21 (ad 126 0, .inl (cA 1, 600, .inl (upd (fun i => sI σ 1026 i) i v))) = Wm cA ad (upI σ 1026 i v) := by
  have e : upd (fun i => sI σ 1026 i) i v = fun k => sI (upI σ 1026 i v) 1026 k := by
    funext k
    rw [sI_upI]
    unfold upd
    by_cases q : k = i
    · rw [if_pos q, if_pos ⟨rfl, q⟩]
    · rw [if_neg q, if_neg (fun z => q z.2)]
  rw [e]
  rfl
theorem atm27 {cA : Nat → ClassId} {ad : Nat → Nat → Nat} {σ : ST} : (Wm cA ad σ)[22]? = some (ad 127 0, .inl (cA 2, 600, .inl (fun i => sI σ 1027 i))) := rfl
theorem stm27 {cA : Nat → ClassId} {ad : Nat → Nat → Nat} {σ : ST} (v : Int32) (i : Nat) : (Wm cA ad σ).set 22 (ad 127 0, .inl (cA 2, 600, .inl (upd (fun i => sI σ 1027 i) i v))) = Wm cA ad (upI σ 1027 i v) := by
  have e : upd (fun i => sI σ 1027 i) i v = fun k => sI (upI σ 1027 i v) 1027 k := by
    funext k
    rw [sI_upI]
    unfold upd
    by_cases q : k = i
    · rw [if_pos q, if_pos ⟨rfl, q⟩]
    · rw [if_neg q, if_neg (fun z => q z.2)]
  rw [e]
  rfl
theorem atm28 {cA : Nat → ClassId} {ad : Nat → Nat → Nat} {σ : ST} : (Wm cA ad σ)[23]? = some (ad 128 0, .inl (cA 2, 600, .inl (fun i => sI σ 1028 i))) := rfl
theorem stm28 {cA : Nat → ClassId} {ad : Nat → Nat → Nat} {σ : ST} (v : Int32) (i : Nat) : (Wm cA ad σ).set 23 (ad 128 0, .inl (cA 2, 600, .inl (upd (fun i => sI σ 1028 i) i v))) = Wm cA ad (upI σ 1028 i v) := by
  have e : upd (fun i => sI σ 1028 i) i v = fun k => sI (upI σ 1028 i v) 1028 k := by
    funext k
    rw [sI_upI]
    unfold upd
    by_cases q : k = i
    · rw [if_pos q, if_pos ⟨rfl, q⟩]
    · rw [if_neg q, if_neg (fun z => q z.2)]
  rw [e]
  rfl
theorem atm29 {cA : Nat → ClassId} {ad : Nat → Nat → Nat} {σ : ST} : (Wm cA ad σ)[24]? = some (ad 129 0, .inl (cA 1, 60, .inl (fun i => sI σ 1029 i))) := rfl
theorem stm29 {cA : Nat → ClassId} {ad : Nat → Nat → Nat} {σ : ST} (v : Int32) (i : Nat) : (Wm cA ad σ).set 24 (ad 129 0, .inl (cA 1, 60, .inl (upd (fun i => sI σ 1029 i) i v))) = Wm cA ad (upI σ 1029 i v) := by
  have e : upd (fun i => sI σ 1029 i) i v = fun k => sI (upI σ 1029 i v) 1029 k := by
    funext k
    rw [sI_upI]
    unfold upd
    by_cases q : k = i
    · rw [if_pos q, if_pos ⟨rfl, q⟩]
    · rw [if_neg q, if_neg (fun z => q z.2)]
  rw [e]
  rfl
theorem atm31 {cA : Nat → ClassId} {ad : Nat → Nat → Nat} {σ : ST} : (Wm cA ad σ)[25]? = some (ad 131 0, .inl (cA 1, 6, .inl (fun i => sI σ 1031 i))) := rfl
theorem stm31 {cA : Nat → ClassId} {ad : Nat → Nat → Nat} {σ : ST} (v : Int32) (i : Nat) : (Wm cA ad σ).set 25 (ad 131 0, .inl (cA 1, 6, .inl (upd (fun i => sI σ 1031 i) i v))) = Wm cA ad (upI σ 1031 i v) := by
  have e : upd (fun i => sI σ 1031 i) i v = fun k => sI (upI σ 1031 i v) 1031 k := by
    funext k
    rw [sI_upI]
    unfold upd
    by_cases q : k = i
    · rw [if_pos q, if_pos ⟨rfl, q⟩]
    · rw [if_neg q, if_neg (fun z => q z.2)]
  rw [e]
  rfl
theorem atm32 {cA : Nat → ClassId} {ad : Nat → Nat → Nat} {σ : ST} : (Wm cA ad σ)[26]? = some (ad 132 0, .inl (cA 1, 6, .inl (fun i => sI σ 1032 i))) := rfl
theorem stm32 {cA : Nat → ClassId} {ad : Nat → Nat → Nat} {σ : ST} (v : Int32) (i : Nat) : (Wm cA ad σ).set 26 (ad 132 0, .inl (cA 1, 6, .inl (upd (fun i => sI σ 1032 i) i v))) = Wm cA ad (upI σ 1032 i v) := by
  have e : upd (fun i => sI σ 1032 i) i v = fun k => sI (upI σ 1032 i v) 1032 k := by
    funext k
    rw [sI_upI]
    unfold upd
    by_cases q : k = i
    · rw [if_pos q, if_pos ⟨rfl, q⟩]
    · rw [if_neg q, if_neg (fun z => q z.2)]
  rw [e]
  rfl
theorem atm35 {cA : Nat → ClassId} {ad : Nat → Nat → Nat} {σ : ST} : (Wm cA ad σ)[27]? = some (ad 135 0, .inl (cA 0, 64, .inr (.inr (.inr (.inl (fun i => sD σ 1035 i)))))) := rfl
theorem stm35 {cA : Nat → ClassId} {ad : Nat → Nat → Nat} {σ : ST} (v : UInt64) (i : Nat) : (Wm cA ad σ).set 27 (ad 135 0, .inl (cA 0, 64, .inr (.inr (.inr (.inl (vf_upd (fun i => sD σ 1035 i) i v)))))) = Wm cA ad (upD σ 1035 i v) := by
  have e : vf_upd (fun i => sD σ 1035 i) i v = fun k => sD (upD σ 1035 i v) 1035 k := by
    funext k
    rw [sD_upD]
    unfold vf_upd
    by_cases q : k = i
    · rw [if_pos q, if_pos ⟨rfl, q⟩]
    · rw [if_neg q, if_neg (fun z => q z.2)]
  rw [e]
  rfl
theorem atm37 {cA : Nat → ClassId} {ad : Nat → Nat → Nat} {σ : ST} : (Wm cA ad σ)[28]? = some (ad 137 0, .inl (cA 1, 160, .inl (fun i => sI σ 1037 i))) := rfl
theorem stm37 {cA : Nat → ClassId} {ad : Nat → Nat → Nat} {σ : ST} (v : Int32) (i : Nat) : (Wm cA ad σ).set 28 (ad 137 0, .inl (cA 1, 160, .inl (upd (fun i => sI σ 1037 i) i v))) = Wm cA ad (upI σ 1037 i v) := by
  have e : upd (fun i => sI σ 1037 i) i v = fun k => sI (upI σ 1037 i v) 1037 k := by
    funext k
    rw [sI_upI]
    unfold upd
    by_cases q : k = i
    · rw [if_pos q, if_pos ⟨rfl, q⟩]
    · rw [if_neg q, if_neg (fun z => q z.2)]
  rw [e]
  rfl
theorem stM_0 {cA : Nat → ClassId} {ad : Nat → Nat → Nat} {σ : ST} (v : Int32) : (Wm cA ad σ).set 0 (ad 9 0, .inr (9, (flModel ad σ).set 0 (.int v))) = Wm cA ad (upI σ 1000 0 v) := rfl
theorem stM_1 {cA : Nat → ClassId} {ad : Nat → Nat → Nat} {σ : ST} (v : Int32) : (Wm cA ad σ).set 0 (ad 9 0, .inr (9, (flModel ad σ).set 1 (.int v))) = Wm cA ad (upI σ 1001 0 v) := rfl
theorem stM_2 {cA : Nat → ClassId} {ad : Nat → Nat → Nat} {σ : ST} (v : Int32) : (Wm cA ad σ).set 0 (ad 9 0, .inr (9, (flModel ad σ).set 2 (.int v))) = Wm cA ad (upI σ 1002 0 v) := rfl
theorem stM_3 {cA : Nat → ClassId} {ad : Nat → Nat → Nat} {σ : ST} (v : UInt64) : (Wm cA ad σ).set 0 (ad 9 0, .inr (9, (flModel ad σ).set 3 (.double v))) = Wm cA ad (upD σ 1003 0 v) := rfl
theorem stM_4 {cA : Nat → ClassId} {ad : Nat → Nat → Nat} {σ : ST} (v : Int32) : (Wm cA ad σ).set 0 (ad 9 0, .inr (9, (flModel ad σ).set 4 (.int v))) = Wm cA ad (upI σ 1004 0 v) := rfl
theorem stM_5 {cA : Nat → ClassId} {ad : Nat → Nat → Nat} {σ : ST} (v : UInt64) : (Wm cA ad σ).set 0 (ad 9 0, .inr (9, (flModel ad σ).set 5 (.double v))) = Wm cA ad (upD σ 1005 0 v) := rfl
theorem stM_30 {cA : Nat → ClassId} {ad : Nat → Nat → Nat} {σ : ST} (v : Int32) : (Wm cA ad σ).set 0 (ad 9 0, .inr (9, (flModel ad σ).set 30 (.int v))) = Wm cA ad (upI σ 1030 0 v) := rfl
theorem stM_33 {cA : Nat → ClassId} {ad : Nat → Nat → Nat} {σ : ST} (v : Int32) : (Wm cA ad σ).set 0 (ad 9 0, .inr (9, (flModel ad σ).set 33 (.int v))) = Wm cA ad (upI σ 1033 0 v) := rfl
theorem stM_34 {cA : Nat → ClassId} {ad : Nat → Nat → Nat} {σ : ST} (v : Int32) : (Wm cA ad σ).set 0 (ad 9 0, .inr (9, (flModel ad σ).set 34 (.int v))) = Wm cA ad (upI σ 1034 0 v) := rfl
theorem stM_36 {cA : Nat → ClassId} {ad : Nat → Nat → Nat} {σ : ST} (v : Int32) : (Wm cA ad σ).set 0 (ad 9 0, .inr (9, (flModel ad σ).set 36 (.int v))) = Wm cA ad (upI σ 1036 0 v) := rfl
theorem stM_38 {cA : Nat → ClassId} {ad : Nat → Nat → Nat} {σ : ST} (v : Int32) : (Wm cA ad σ).set 0 (ad 9 0, .inr (9, (flModel ad σ).set 38 (.int v))) = Wm cA ad (upI σ 1038 0 v) := rfl
theorem stM_39 {cA : Nat → ClassId} {ad : Nat → Nat → Nat} {σ : ST} (v : Int32) : (Wm cA ad σ).set 0 (ad 9 0, .inr (9, (flModel ad σ).set 39 (.int v))) = Wm cA ad (upI σ 1039 0 v) := rfl
theorem stM_40 {cA : Nat → ClassId} {ad : Nat → Nat → Nat} {σ : ST} (v : Int32) : (Wm cA ad σ).set 0 (ad 9 0, .inr (9, (flModel ad σ).set 40 (.int v))) = Wm cA ad (upI σ 1040 0 v) := rfl
theorem stM_41 {cA : Nat → ClassId} {ad : Nat → Nat → Nat} {σ : ST} (v : Int32) : (Wm cA ad σ).set 0 (ad 9 0, .inr (9, (flModel ad σ).set 41 (.int v))) = Wm cA ad (upI σ 1041 0 v) := rfl
theorem stM_42 {cA : Nat → ClassId} {ad : Nat → Nat → Nat} {σ : ST} (v : Int32) : (Wm cA ad σ).set 0 (ad 9 0, .inr (9, (flModel ad σ).set 42 (.int v))) = Wm cA ad (upI σ 1042 0 v) := rfl
