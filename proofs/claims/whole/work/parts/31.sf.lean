/-! goes well: an answer is there, and what it keeps -/
def Sf {α : Type} (x : Option α) (Q : α → Prop) : Prop := ∃ a, x = some a ∧ Q a
theorem sf_some {α : Type} {a : α} {Q : α → Prop} (h : Q a) : Sf (some a) Q := ⟨a, rfl, h⟩
theorem sf_bind {α β : Type} {x : Option α} {F : α → Option β} {P : α → Prop} {Q : β → Prop} (h : Sf x P) (k : ∀ a, P a → Sf (F a) Q) : Sf (x.bind F) Q := by
  obtain ⟨a, e, p⟩ := h
  subst e
  exact k a p
theorem sf_sb {α β : Type} {a : α} {F : α → Option β} {Q : β → Prop} (h : Sf (F a) Q) : Sf (Option.bind (some a) F) Q := h
theorem sf_mono {α : Type} {x : Option α} {P Q : α → Prop} (h : Sf x P) (k : ∀ a, P a → Q a) : Sf x Q := by
  obtain ⟨a, e, p⟩ := h
  exact ⟨a, e, k a p⟩
theorem sf_b {α : Type} {c : Bool} {A B : Option α} {Q : α → Prop} (h1 : c = true → Sf A Q) (h2 : c = false → Sf B Q) : Sf (bif c then A else B) Q := by
  cases c
  · exact h2 rfl
  · exact h1 rfl
theorem sf_d {α : Type} {p : Prop} [Decidable p] {A B : Option α} {Q : α → Prop} (h1 : p → Sf A Q) (h2 : ¬ p → Sf B Q) : Sf (bif decide p then A else B) Q :=
  sf_b (fun h => h1 (of_decide_eq_true h)) (fun h => h2 (of_decide_eq_false h))
theorem sf_n {α : Type} {p : Prop} [Decidable p] {A B : Option α} {Q : α → Prop} (h1 : ¬ p → Sf A Q) (h2 : p → Sf B Q) : Sf (bif !(decide p) then A else B) Q := by
  refine sf_b (fun h => h1 ?_) (fun h => h2 ?_)
  · rw [Bool.not_eq_true'] at h
    exact of_decide_eq_false h
  · rw [Bool.not_eq_false'] at h
    exact of_decide_eq_true h
theorem sf_lt {α : Type} {a b : Int32} {m n : Int} {A B : Option α} {Q : α → Prop} (ha : a.toInt = m) (hb : b.toInt = n) (h1 : m < n → Sf A Q) (h2 : n ≤ m → Sf B Q) : Sf (bif decide (a < b) then A else B) Q := by
  subst ha hb
  refine sf_d (fun h => h1 (Int32.lt_iff_toInt_lt.mp h)) (fun h => h2 ?_)
  have h3 : ¬ a.toInt < b.toInt := fun q => h (Int32.lt_iff_toInt_lt.mpr q)
  omega
theorem sf_le {α : Type} {a b : Int32} {m n : Int} {A B : Option α} {Q : α → Prop} (ha : a.toInt = m) (hb : b.toInt = n) (h1 : m ≤ n → Sf A Q) (h2 : n < m → Sf B Q) : Sf (bif decide (a ≤ b) then A else B) Q := by
  subst ha hb
  refine sf_d (fun h => h1 (Int32.le_iff_toInt_le.mp h)) (fun h => h2 ?_)
  have h3 : ¬ a.toInt ≤ b.toInt := fun q => h (Int32.le_iff_toInt_le.mpr q)
  omega
theorem sf_c {α : Type} {c : Bool} {A : Option α} {Q : α → Prop} (h : c = true) (k : Sf A Q) : Sf (bif c then A else none) Q := by
  subst h
  exact k
theorem sf_e {α : Type} {q : Option Nat} {A : Option α} {G : Nat → Option α} {Q : α → Prop} (h1 : Sf A Q) (h2 : ∀ x, q = some x → Sf (G x) Q) : Sf (Option.elim q A G) Q := by
  cases q with
  | none => exact h1
  | some x => exact h2 x rfl
theorem sf_s {α : Type} {q : Nat ⊕ Nat} {F G : Nat → Option α} {Q : α → Prop} (h1 : ∀ x, q = .inl x → Sf (F x) Q) (h2 : ∀ x, q = .inr x → Sf (G x) Q) : Sf (Sum.elim F G q) Q := by
  cases q with
  | inl x => exact h1 x rfl
  | inr x => exact h2 x rfl
/-! small numbers -/
theorem pin {a : Int32} {n : Nat} (h : 0 ≤ a.toInt ∧ a.toInt < (n : Int)) : pm_in a n = true := by
  refine pd_in (fun q => ?_) h.2
  have := Int32.lt_iff_toInt_lt.mp q
  have e : (0 : Int32).toInt = 0 := by decide
  omega
theorem of_pin {a : Int32} {n : Nat} (h : pm_in a n = true) : 0 ≤ a.toInt ∧ a.toInt < (n : Int) := by
  have h1 := pm_in_lt h
  simp only [pm_in, Bool.and_eq_true, Bool.not_eq_true', decide_eq_false_iff_not] at h
  have h2 : ¬ a.toInt < 0 := fun q => h.1 (Int32.lt_iff_toInt_lt.mpr q)
  have h3 : a.toInt.toNat < n := h1
  omega
theorem toInt_b (a : Int32) : -2147483648 ≤ a.toInt ∧ a.toInt < 2147483648 := by
  have h1 := a.minValue_le_toInt
  have h2 := a.toInt_lt
  have e : Int32.minValue.toInt = -2147483648 := by decide
  omega
theorem bm_id {x : Int} (h : -2147483648 ≤ x ∧ x < 2147483648) : x.bmod (2 ^ 32) = x := by
  have e : (2 : Nat) ^ 32 = 4294967296 := by decide
  rw [e, Int.bmod_def]
  have e2 : ((4294967296 : Nat) : Int) = 4294967296 := rfl
  rw [e2]
  split <;> omega
theorem sI_add {a b : Int32} (h : -2147483648 ≤ a.toInt + b.toInt ∧ a.toInt + b.toInt < 2147483648) : (a + b).toInt = a.toInt + b.toInt := by
  rw [Int32.toInt_add, bm_id h]
theorem sI_sub {a b : Int32} (h : -2147483648 ≤ a.toInt - b.toInt ∧ a.toInt - b.toInt < 2147483648) : (a - b).toInt = a.toInt - b.toInt := by
  rw [Int32.toInt_sub, bm_id h]
theorem sI_mul {a b : Int32} (h : -2147483648 ≤ a.toInt * b.toInt ∧ a.toInt * b.toInt < 2147483648) : (a * b).toInt = a.toInt * b.toInt := by
  rw [Int32.toInt_mul, bm_id h]
theorem sI_1 : (1 : Int32).toInt = 1 := by decide
theorem sI_m1 : (-1 : Int32).toInt = -1 := by decide
theorem sI_add1 {a : Int32} (h : a.toInt < 2147483647) : (a + 1).toInt = a.toInt + 1 := by
  have := toInt_b a
  rw [sI_add (by rw [sI_1]; omega), sI_1]
theorem sI_sub1 {a : Int32} (h : -2147483648 < a.toInt) : (a - 1).toInt = a.toInt - 1 := by
  have := toInt_b a
  rw [sI_sub (by rw [sI_1]; omega), sI_1]
theorem sI_addm {a : Int32} (h : -2147483648 < a.toInt) : (a + (-1)).toInt = a.toInt - 1 := by
  have := toInt_b a
  rw [sI_add (by rw [sI_m1]; omega), sI_m1]
  omega
theorem sI_and {x m : Int32} {k : Nat} (hm : m.toBitVec.toNat = k) (hk : k < 2147483648) : 0 ≤ (x &&& m).toInt ∧ (x &&& m).toInt ≤ (k : Int) := by
  have h : (x &&& m).toBitVec.toNat ≤ k := by
    rw [Int32.toBitVec_and, BitVec.toNat_and, hm]
    exact Nat.and_le_right
  have e : (x &&& m).toInt = (x &&& m).toBitVec.toInt := rfl
  rw [e, BitVec.toInt_eq_toNat_cond]
  split <;> omega
theorem and7 (x : Int32) : 0 ≤ (x &&& 7).toInt ∧ (x &&& 7).toInt ≤ 7 := sI_and (k := 7) (by decide) (by decide)
theorem and3 (x : Int32) : 0 ≤ (x &&& 3).toInt ∧ (x &&& 3).toInt ≤ 3 := sI_and (k := 3) (by decide) (by decide)
theorem in7 {x : Int32} : pm_in (x &&& (7 : Int32)) 8 = true := by
  have := and7 x
  exact pin (by omega)
theorem in3 {x : Int32} : pm_in (x &&& (3 : Int32)) 4 = true := by
  have := and3 x
  exact pin (by omega)
theorem sI_8 : (8 : Int32).toInt = 8 := by decide
theorem sI_20 : (20 : Int32).toInt = 20 := by decide
theorem inslot {x y : Int32} : pm_in (d_De_slot x y) 64 = true := by
  have h1 := and7 x
  have h2 := and7 y
  unfold d_De_slot
  have e : ((x &&& 7) * 8).toInt = (x &&& 7).toInt * 8 := by rw [sI_mul (by rw [sI_8]; omega), sI_8]
  refine pin ?_
  rw [sI_add (by rw [e]; omega), e]
  omega
theorem inkept {x y : Int32} (h : 0 ≤ y.toInt ∧ y.toInt < 20) : pm_in (((x &&& (7 : Int32)) * (20 : Int32)) + y) 160 = true := by
  have h1 := and7 x
  have e : ((x &&& 7) * 20).toInt = (x &&& 7).toInt * 20 := by rw [sI_mul (by rw [sI_20]; omega), sI_20]
  refine pin ?_
  rw [sI_add (by rw [e]; omega), e]
  omega
/-! what stays -/
def Fr (lo hi : Nat) (v q : pd_V) : Prop := ∀ a, (a < lo ∨ hi ≤ a) → q a = v a
theorem pd_wa {v : pd_V} {a k b : Nat} {x : Int32} (h : b ≠ a) : pd_w v a k x b = v b := by
  funext j
  exact pd_w_ne h
section FR
variable {lo hi lo' hi' : Nat} {v u q : pd_V} {a k : Nat} {x : Int32}
theorem Fr_r : Fr lo hi v v := fun _ _ => rfl
theorem Fr_t (h1 : Fr lo hi v u) (h2 : Fr lo hi u q) : Fr lo hi v q := fun a h => (h2 a h).trans (h1 a h)
theorem Fr_m (h : Fr lo hi v q) (h1 : lo' ≤ lo ∧ hi ≤ hi') : Fr lo' hi' v q := fun a h2 => h a (by omega)
theorem Fr_w (h : Fr lo hi v u) (h1 : lo ≤ a ∧ a < hi) : Fr lo hi v (pd_w u a k x) := fun b h2 => by rw [pd_wa (by omega)]; exact h b h2
/-- the crew at lo: its flag stays a boolean -/
def Bz (l : Nat) (v : pd_V) : Prop := v l 9 = 0 ∨ v l 9 = 1
def RB (l : Nat) (v q : pd_V) : Prop := Fr l (l + 10) v q ∧ (Bz l v → Bz l q)
variable {l : Nat}
theorem RB_r : RB l v v := ⟨Fr_r, id⟩
theorem RB_t (h1 : RB l v u) (h2 : RB l u q) : RB l v q := ⟨Fr_t h1.1 h2.1, fun h => h2.2 (h1.2 h)⟩
theorem RB_a (h : RB l v u) (ha : l < a ∧ a < l + 10) : RB l v (pd_w u a k x) := ⟨Fr_w h.1 (by omega), fun hb => by have := h.2 hb; unfold Bz at *; rw [pd_wa (by omega)]; exact this⟩
theorem RB_k (h : RB l v u) (hk : k ≠ 9) : RB l v (pd_w u l k x) := ⟨Fr_w h.1 (by omega), fun hb => by have := h.2 hb; unfold Bz at *; rw [pd_w_nk (Ne.symm hk)]; exact this⟩
theorem RB_9 (h : RB l v u) (hx : x = 0 ∨ x = 1) : RB l v (pd_w u l 9 x) := ⟨Fr_w h.1 (by omega), fun _ => by unfold Bz; rw [pd_w_self]; exact hx⟩
theorem Bz_9 (hx : x = 0 ∨ x = 1) : Bz l (pd_w u l 9 x) := by unfold Bz; rw [pd_w_self]; exact hx
/-- the reader -/
def KO (v : pd_V) : Prop := (0 ≤ (v 1 1).toInt ∧ (v 1 1).toInt ≤ 160) ∧ (0 ≤ (v 1 5).toInt ∧ (v 1 5).toInt ≤ 4) ∧ (0 ≤ (v 3 3).toInt ∧ 0 ≤ (v 3 4).toInt) ∧ (0 ≤ (v 88 3).toInt ∧ 0 ≤ (v 88 4).toInt)
theorem KO_k (h : KO v) (ha : ker a) : 0 ≤ (v a 3).toInt ∧ 0 ≤ (v a 4).toInt := by
  obtain ⟨-, -, h3, h4⟩ := h
  rcases ha with rfl | rfl
  · exact h3
  · exact h4
def TC (v q : pd_V) : Prop := Fr 0 172 v q ∧ q 1 1 = v 1 1 ∧ (KO v → KO q)
theorem TC_r : TC v v := ⟨Fr_r, rfl, id⟩
theorem TC_t (h1 : TC v u) (h2 : TC u q) : TC v q := ⟨Fr_t h1.1 h2.1, h2.2.1.trans h1.2.1, fun h => h2.2.2 (h1.2.2 h)⟩
theorem TC_g (h : TC v u) (ha : a < 172 ∧ a ≠ 1 ∧ a ≠ 3 ∧ a ≠ 88) : TC v (pd_w u a k x) := by
  refine ⟨Fr_w h.1 (by omega), ?_, fun hk => ?_⟩
  · rw [pd_wa (show 1 ≠ a by omega)]; exact h.2.1
  · have := h.2.2 hk
    unfold KO at *
    rw [pd_wa (show 1 ≠ a by omega), pd_wa (show 3 ≠ a by omega), pd_wa (show 88 ≠ a by omega)]
    exact this
theorem TC_1 (h : TC v u) (hk : 1 ≠ k ∧ 5 ≠ k) : TC v (pd_w u 1 k x) := by
  refine ⟨Fr_w h.1 (by omega), ?_, fun hk' => ?_⟩
  · rw [pd_w_nk hk.1]; exact h.2.1
  · have := h.2.2 hk'
    unfold KO at *
    rw [pd_w_nk hk.1, pd_w_nk hk.2, pd_wa (show 3 ≠ 1 by decide), pd_wa (show 88 ≠ 1 by decide)]
    exact this
theorem TC_5 (h : TC v u) (hx : 0 ≤ x.toInt ∧ x.toInt ≤ 4) : TC v (pd_w u 1 5 x) := by
  refine ⟨Fr_w h.1 (by omega), ?_, fun hk' => ?_⟩
  · rw [pd_w_nk (by decide)]; exact h.2.1
  · have := h.2.2 hk'
    unfold KO at *
    rw [pd_w_nk (by decide), pd_w_self, pd_wa (show 3 ≠ 1 by decide), pd_wa (show 88 ≠ 1 by decide)]
    exact ⟨this.1, hx, this.2.2⟩
theorem TC_k (h : TC v u) (ha : ker a) (hx : (k = 3 ∨ k = 4) → 0 ≤ x.toInt) : TC v (pd_w u a k x) := by
  have h1 : 1 ≠ a := by rcases ha with rfl | rfl <;> decide
  refine ⟨Fr_w h.1 (by rcases ha with rfl | rfl <;> omega), ?_, fun hk' => ?_⟩
  · rw [pd_wa h1]; exact h.2.1
  · have := h.2.2 hk'
    unfold KO at *
    obtain ⟨t1, t2, t3, t4⟩ := this
    refine ⟨by rw [pd_wa h1]; exact t1, by rw [pd_wa h1]; exact t2, ?_, ?_⟩
    · by_cases e : a = 3
      · subst e
        refine ⟨?_, ?_⟩
        · by_cases e3 : k = 3
          · subst e3; rw [pd_w_self]; exact hx (Or.inl rfl)
          · rw [pd_w_nk (Ne.symm e3)]; exact t3.1
        · by_cases e3 : k = 4
          · subst e3; rw [pd_w_self]; exact hx (Or.inr rfl)
          · rw [pd_w_nk (Ne.symm e3)]; exact t3.2
      · rw [pd_wa (Ne.symm e)]; exact t3
    · by_cases e : a = 88
      · subst e
        refine ⟨?_, ?_⟩
        · by_cases e3 : k = 3
          · subst e3; rw [pd_w_self]; exact hx (Or.inl rfl)
          · rw [pd_w_nk (Ne.symm e3)]; exact t4.1
        · by_cases e3 : k = 4
          · subst e3; rw [pd_w_self]; exact hx (Or.inr rfl)
          · rw [pd_w_nk (Ne.symm e3)]; exact t4.2
      · rw [pd_wa (Ne.symm e)]; exact t4
/-- only the place in the text moves -/
def RM (v q : pd_V) : Prop := (∀ a, a ≠ 1 → q a = v a) ∧ (∀ k, k ≠ 2 → q 1 k = v 1 k)
theorem RM_r : RM v v := ⟨fun _ _ => rfl, fun _ _ => rfl⟩
theorem RM_t (h1 : RM v u) (h2 : RM u q) : RM v q := ⟨fun a h => (h2.1 a h).trans (h1.1 a h), fun k h => (h2.2 k h).trans (h1.2 k h)⟩
theorem RM_w (h : RM v u) : RM v (pd_w u 1 2 x) := ⟨fun a ha => by rw [pd_wa ha]; exact h.1 a ha, fun k hk => by rw [pd_w_nk hk]; exact h.2 k hk⟩
theorem TC_RM (h : RM v q) : TC v q := by
  refine ⟨fun a ha => h.1 a (by omega), h.2 1 (by decide), fun hk => ?_⟩
  unfold KO at *
  rw [h.2 1 (by decide), h.2 5 (by decide), h.1 3 (by decide), h.1 88 (by decide)]
  exact hk
/-- only what varies moves -/
def RV (l : Nat) (v q : pd_V) : Prop := (∀ a, a ≠ l → q a = v a) ∧ (∀ k, k ≠ 5 → q l k = v l k)
theorem RV_r : RV l v v := ⟨fun _ _ => rfl, fun _ _ => rfl⟩
theorem RV_t (h1 : RV l v u) (h2 : RV l u q) : RV l v q := ⟨fun a h => (h2.1 a h).trans (h1.1 a h), fun k h => (h2.2 k h).trans (h1.2 k h)⟩
theorem RV_w (h : RV l v u) : RV l v (pd_w u l 5 x) := ⟨fun a ha => by rw [pd_wa ha]; exact h.1 a ha, fun k hk => by rw [pd_w_nk hk]; exact h.2 k hk⟩
theorem TC_RV (h : RV l v q) (hl : ker l) : TC v q := by
  have h1 : 1 ≠ l := by rcases hl with rfl | rfl <;> decide
  refine ⟨fun a ha => h.1 a (by rcases hl with rfl | rfl <;> omega), by rw [h.1 1 h1], fun hk => ?_⟩
  unfold KO at *
  rw [h.1 1 h1]
  refine ⟨hk.1, hk.2.1, ?_, ?_⟩
  · by_cases e : 3 = l
    · have h3 := h.2 3 (by decide)
      have h4 := h.2 4 (by decide)
      rw [← e] at h3 h4
      rw [h3, h4]
      exact hk.2.2.1
    · rw [h.1 3 e]; exact hk.2.2.1
  · by_cases e : 88 = l
    · have h3 := h.2 3 (by decide)
      have h4 := h.2 4 (by decide)
      rw [← e] at h3 h4
      rw [h3, h4]
      exact hk.2.2.2
    · rw [h.1 88 e]; exact hk.2.2.2
end FR
theorem sI_0 : (0 : Int32).toInt = 0 := by decide
theorem bx0 {l : Nat} {v : pd_V} (h : Bz l v) : (v l 9 ||| (0 : Int32)) = 0 ∨ (v l 9 ||| (0 : Int32)) = 1 := by
  rcases h with h | h <;> rw [h] <;> decide
theorem bx1 {l : Nat} {v : pd_V} (h : Bz l v) : (v l 9 ||| (1 : Int32)) = 0 ∨ (v l 9 ||| (1 : Int32)) = 1 := by
  rcases h with h | h <;> rw [h] <;> decide
theorem bz0 {l : Nat} {v : pd_V} (h : Bz l v) : ((v l 9 ||| (0 : Int32)) == 0 || (v l 9 ||| (0 : Int32)) == 1) = true := by
  rcases bx0 h with e | e <;> rw [e] <;> decide
theorem bz1 {l : Nat} {v : pd_V} (h : Bz l v) : ((v l 9 ||| (1 : Int32)) == 0 || (v l 9 ||| (1 : Int32)) == 1) = true := by
  rcases bx1 h with e | e <;> rw [e] <;> decide
