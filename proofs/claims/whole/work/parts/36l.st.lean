/-! rows, open blocks, and one statement -/
def ZJ (s : Nat → Int32) (n a i1 j : Nat) (v : pd_V) : Prop := ∃ p k, xit s j (0, []) = some (p, k) ∧ ((¬ (s p = 125 ∧ k ≠ []) ∧ ZR s n a (a + 4 + j) p k.length i1 v) ∨ (s p = 125 ∧ ∃ h m k0, k = (h, m) :: k0 ∧ v (a + 4 + j) 1 = Int32.ofNat p ∧ v (a + 4 + j) 2 = Int32.ofNat k0.length ∧ v (a + 4 + j) 0 = (bif Nat.beq m 1 && decide (s (p + 1) = 123) then 7 else bif Nat.beq m 0 then 9 else 8)))
def ZH (s : Nat → Int32) (j a : Nat) (v : pd_V) : xK → Prop
  | [] => ZN s j a v
  | (h, m) :: k => (∃ r, v 87 k.length = Int32.ofNat r ∧ r < j ∧ xit s r (0, []) = some (h, k) ∧ (m = 0 ∧ v (a + 4 + r) 0 = 6 ∧ v (a + 4 + r) 4 = 0 ∨ m = 1 ∧ v (a + 4 + r) 0 = 5 ∧ v (a + 4 + r) 4 = 0 ∨ m = 2 ∧ v (a + 4 + r) 0 = 5 ∧ ∃ o, v (a + 4 + r) 4 = Int32.ofNat o ∧ 0 < o ∧ o < j ∧ ∃ p', xit s o (0, []) = some (p', (h, 1) :: k) ∧ s p' = 125)) ∧ ZH s j a v k
def ZL (s : Nat → Int32) (n a j p : Nat) (k : xK) (v : pd_V) : Prop := (RD n s v ∧ Ac p v ∧ p ≤ n ∧ kerOf (v 1 3) = a) ∧ xit s j (0, []) = some (p, k) ∧ v 1 5 = Int32.ofNat k.length ∧ v a 3 = Int32.ofNat j ∧ 2 * j + k.length ≤ p ∧ (∃ i1, v a 4 = Int32.ofNat i1 ∧ i1 ≤ p ∧ ∀ j', j' < j → ZJ s n a i1 j' v) ∧ ZH s j a v k
def ZO (s : Nat → Int32) (n a j p : Nat) (k : xK) (r : Int32 × pd_V) : Prop := (r.1 = 0 ∧ ∃ z k', xns s p k = (false, z, k') ∧ Ac z r.2) ∨ (r.1 = 1 ∧ ∃ p' k', xns s p k = (true, p', k') ∧ p < p' ∧ ZL s n a (j + 1) p' k' r.2)
section ZST
variable {s : Nat → Int32} {n m w a b i0 i1 i2 p p' q e j nb : Nat} {v u t : pd_V} {x y : Int32} {k k' : xK}
theorem xit_s (h : xit s j (0, []) = some (p, k)) (e : xns s p k = (true, p', k')) : xit s (j + 1) (0, []) = some (p', k') := by
  rw [xit_add, h]
  show xit s 1 (p, k) = _
  rw [xit]
  show (bif (xns s p k).1 then xit s 0 (xns s p k).2 else none) = _
  rw [e]
  rfl
theorem ZJ_f (h : ZJ s n a i1 j v) (hi : i1 ≤ i2) (hb : ∀ f, f ≠ 3 → f ≠ 4 → u (a + 4 + j) f = v (a + 4 + j) f) (hX : ∀ t, t < i1 → u (a + 2) t = v (a + 2) t ∧ u (a + 3) t = v (a + 3) t) : ZJ s n a i2 j u := by
  obtain ⟨p, k, h1, h2⟩ := h
  refine ⟨p, k, h1, ?_⟩
  rcases h2 with ⟨g1, g2⟩ | ⟨g1, h, m, k0, g2, g3, g4, g5⟩
  · exact Or.inl ⟨g1, ZR_f g2 hi hb hX⟩
  · exact Or.inr ⟨g1, h, m, k0, g2, by rw [hb 1 (by decide) (by decide)]; exact g3, by rw [hb 2 (by decide) (by decide)]; exact g4, by rw [hb 0 (by decide) (by decide)]; exact g5⟩
theorem ZH_f {j' : Nat} : ∀ (k : xK), ZH s j a v k → j ≤ j' → (∀ i, i < k.length → u 87 i = v 87 i) → (∀ r h l, r < j → xit s r (0, []) = some (h, l) → l.length < k.length → u (a + 4 + r) 0 = v (a + 4 + r) 0 ∧ u (a + 4 + r) 4 = v (a + 4 + r) 4) → (ZN s j a v → ZN s j' a u) → ZH s j' a u k := by
  intro k
  induction k with
  | nil => intro hH _ _ _ hN; exact hN hH
  | cons y k ih =>
    intro hH hj h87 hr hN
    obtain ⟨h, m⟩ := y
    obtain ⟨⟨r, r1, r2, r3, r4⟩, h2⟩ := hH
    have e := hr r h k r2 r3 (by show k.length < k.length + 1; omega)
    refine ⟨⟨r, by rw [h87 k.length (by show k.length < k.length + 1; omega)]; exact r1, by omega, r3, ?_⟩, ih h2 hj (fun i hi => h87 i (by show i < k.length + 1; omega)) (fun r h l c1 c2 c3 => hr r h l c1 c2 (by show l.length < k.length + 1; omega)) hN⟩
    rw [e.1, e.2]
    rcases r4 with r4 | r4 | ⟨r4, r5, o, r6, r7, r8, r9⟩
    · exact Or.inl r4
    · exact Or.inr (Or.inl r4)
    · exact Or.inr (Or.inr ⟨r4, r5, o, r6, r7, by omega, r9⟩)
/-- a simple statement is read -/
theorem ZL_s (ha : ker a) (hL : ZL s n a j p k v) (h4 : v a 4 = Int32.ofNat i0) (hJ : ∀ j', j' < j → ZJ s n a i0 j' v) (hE : ZE s n a (a + 4 + j) j i0 i1 p k.length p' y v u) (hns : xns s p k = (true, p', k)) (hp : p + 2 ≤ p') (hR : ZR s n a (a + 4 + j) p k.length i1 u) (h7 : ¬ (s p = 125 ∧ k ≠ [])) (hj : j < 80) : ZL s n a (j + 1) p' k u := by
  have pa : a = 3 ∨ a = 88 := ha
  obtain ⟨-, l2, l3, l4, l5, -, l7⟩ := hL
  obtain ⟨⟨e1, e2, e3, e4⟩, e5, ⟨e6, e7, e8, e9⟩, e10, e11, e12, e13⟩ := hE
  have row : ∀ r, r < j → u (a + 4 + r) = v (a + 4 + r) := fun r hr => e5.1 _ (by omega) (by omega) (by omega) (by omega) (by omega)
  refine ⟨⟨e1, e2, e3, e4⟩, xit_s l2 hns, by rw [e5.2.1 5 (by decide) (by decide)]; exact l3, e6, by omega, ⟨i1, e7, e9, fun j' hj' => ?_⟩, ZH_f k l7 (by omega) (fun i _ => by rw [e5.1 87 (by omega) (by omega) (by omega) (by omega) (by omega)]) (fun r _ _ hr _ _ => by rw [row r hr]; exact ⟨rfl, rfl⟩) (fun hN => ZN_s hN l2 h7 row)⟩
  by_cases c : j' = j
  · subst c
    exact ⟨p, k, l2, Or.inl ⟨h7, hR⟩⟩
  · exact ZJ_f (hJ j' (by omega)) e8 (fun f _ _ => by rw [row j' (by omega)]) e5.2.2
/-- a block is opened -/
theorem ZL_b (ha : ker a) (hL : ZL s n a j p k v) (h4 : v a 4 = Int32.ofNat i0) (hJ : ∀ j', j' < j → ZJ s n a i0 j' v) (hE : ZE s n a (a + 4 + j) j i0 i1 p k.length p' y v u) (hm : m = 0 ∧ y = 6 ∨ m = 1 ∧ y = 5) (hns : xns s p k = (true, p', (p, m) :: k)) (hp : p + 3 ≤ p') (hR : ZR s n a (a + 4 + j) p k.length i1 u) (h7 : ¬ (s p = 125 ∧ k ≠ [])) (hj : j < 80) : ZL s n a (j + 1) p' ((p, m) :: k) (pd_w (pd_w u 87 k.length (Int32.ofNat j)) 1 5 (Int32.ofNat (k.length + 1))) := by
  have pa : a = 3 ∨ a = 88 := ha
  obtain ⟨-, l2, l3, l4, l5, -, l7⟩ := hL
  obtain ⟨⟨e1, e2, e3, e4⟩, e5, ⟨e6, e7, e8, e9⟩, e10, e11, e12, e13⟩ := hE
  have hu : ∀ c, c ≠ 87 → c ≠ 1 → pd_w (pd_w u 87 k.length (Int32.ofNat j)) 1 5 (Int32.ofNat (k.length + 1)) c = u c := fun c c1 c2 => by rw [pd_wa c2, pd_wa c1]
  have h1 : ∀ f, f ≠ 5 → pd_w (pd_w u 87 k.length (Int32.ofNat j)) 1 5 (Int32.ofNat (k.length + 1)) 1 f = u 1 f := fun f hf => by rw [pd_w_nk hf, pd_w_ne (by decide)]
  have h8 : ∀ i, i ≠ k.length → pd_w (pd_w u 87 k.length (Int32.ofNat j)) 1 5 (Int32.ofNat (k.length + 1)) 87 i = u 87 i := fun i hi => by rw [pd_w_ne (by decide), pd_w_nk hi]
  have h8s : pd_w (pd_w u 87 k.length (Int32.ofNat j)) 1 5 (Int32.ofNat (k.length + 1)) 87 k.length = Int32.ofNat j := by rw [pd_w_ne (by decide), pd_w_self]
  have h15 : pd_w (pd_w u 87 k.length (Int32.ofNat j)) 1 5 (Int32.ofNat (k.length + 1)) 1 5 = Int32.ofNat (k.length + 1) := pd_w_self
  generalize pd_w (pd_w u 87 k.length (Int32.ofNat j)) 1 5 (Int32.ofNat (k.length + 1)) = t at hu h1 h8 h8s h15
  have row : ∀ r, r < j → t (a + 4 + r) = v (a + 4 + r) := fun r hr => (hu _ (by omega) (by omega)).trans (e5.1 _ (by omega) (by omega) (by omega) (by omega) (by omega))
  have rb : t (a + 4 + j) = u (a + 4 + j) := hu _ (by omega) (by omega)
  have ta : t a = u a := hu _ (by omega) (by omega)
  have ta2 : t (a + 2) = u (a + 2) := hu _ (by omega) (by omega)
  have ta3 : t (a + 3) = u (a + 3) := hu _ (by omega) (by omega)
  refine ⟨⟨⟨by rw [h1 1 (by decide)]; exact e1.1, fun i hi => by rw [hu 2 (by omega) (by omega)]; exact e1.2 i hi⟩, (h1 2 (by decide)).trans e2, e3, by rw [h1 3 (by decide)]; exact e4⟩, xit_s l2 hns, h15, by rw [ta]; exact e6, by show 2 * (j + 1) + (k.length + 1) ≤ p'; omega, ⟨i1, by rw [ta]; exact e7, e9, fun j' hj' => ?_⟩, ⟨j, h8s, by omega, l2, ?_⟩, ZH_f k l7 (by omega) (fun i hi => ?_) (fun r _ _ hr _ _ => by rw [row r hr]; exact ⟨rfl, rfl⟩) (fun hN => ZN_s hN l2 h7 row)⟩
  · by_cases c : j' = j
    · subst c
      exact ⟨p, k, l2, Or.inl ⟨h7, ZR_f hR (Nat.le_refl _) (fun f _ _ => by rw [rb]) (fun t _ => by rw [ta2, ta3]; exact ⟨rfl, rfl⟩)⟩⟩
    · exact ZJ_f (hJ j' (by omega)) e8 (fun f _ _ => by rw [row j' (by omega)]) (fun t ht => by rw [ta2, ta3]; exact e5.2.2 t ht)
  · rw [rb, e10, e13]
    rcases hm with ⟨m1, m2⟩ | ⟨m1, m2⟩
    · exact Or.inl ⟨m1, m2, rfl⟩
    · exact Or.inr (Or.inl ⟨m1, m2, rfl⟩)
  · rw [h8 i (by omega), e5.1 87 (by omega) (by omega) (by omega) (by omega) (by omega)]
/-! the text's own answers, sign by sign -/
theorem xns_s (h : ¬ (s p = 125 ∧ k ≠ [])) (h1 : s p ≠ 63) (h2 : s p ≠ 42) : xns s p k = ((xst s p).1, (xst s p).2, k) := by
  unfold xns
  have c1 : (decide (s p = 125) && !k.isEmpty) = false := by
    by_cases c : s p = 125
    · cases k with
      | nil => exact Bool.and_false _
      | cons y k => exact absurd ⟨c, fun q => nomatch q⟩ h
    · rw [decide_eq_false c]; rfl
  rw [c1, decide_eq_false h1, decide_eq_false h2]
  rfl
theorem xns_bf {z : Nat} (h : s p = 63 ∨ s p = 42) (h1 : xE s (p + 1) = (false, z)) : xns s p k = (false, z, k) := by
  unfold xns
  have c1 : s p ≠ 125 := by rcases h with h | h <;> (rw [h]; decide)
  have c2 : (decide (s p = 63) || decide (s p = 42)) = true := by rcases h with h | h <;> (rw [h]; decide)
  rw [decide_eq_false c1, c2, h1]
  rfl
theorem xns_bg {z : Nat} (h : s p = 63 ∨ s p = 42) (h1 : xE s (p + 1) = (true, z)) (h2 : ¬ (k.length < 4 ∧ s z = 123)) : xns s p k = (false, z, k) := by
  unfold xns
  have c1 : s p ≠ 125 := by rcases h with h | h <;> (rw [h]; decide)
  have c2 : (decide (s p = 63) || decide (s p = 42)) = true := by rcases h with h | h <;> (rw [h]; decide)
  have c3 : (Nat.blt k.length 4 && decide (s z = 123)) = false := by
    by_cases c : s z = 123
    · have : Nat.blt k.length 4 = false := by
        cases q : Nat.blt k.length 4
        · rfl
        · rw [Nat.blt_eq] at q
          exact absurd ⟨q, c⟩ h2
      rw [this]
      rfl
    · rw [decide_eq_false c, Bool.and_false]
  rw [decide_eq_false c1, c2, h1]
  show (bif true && (Nat.blt k.length 4 && decide (s z = 123)) then _ else (false, z, k)) = _
  rw [c3]
  rfl
theorem xst_O (h : s p = 79) : xst s p = xfin s (xE s (p + 1)) := by
  unfold xst
  rw [decide_eq_true h]
  rfl
theorem xst_R (h : s p = 82) : xst s p = xfin s (true, p + 1) := by
  unfold xst
  rw [decide_eq_false (show s p ≠ 79 by rw [h]; decide), decide_eq_true h]
  rfl
theorem xfin_f {z : Nat} : xfin s (false, z) = (false, z) := rfl
theorem xst_L (h : s p = 76) : xst s p = xfin s (xsto s (p + 1)) := by
  unfold xst xsto
  rw [decide_eq_false (show s p ≠ 79 by rw [h]; decide), decide_eq_false (show s p ≠ 82 by rw [h]; decide), decide_eq_true h]
  show (bif decide (s (p + 1) = 91) then (bif (xE1 s (p + 2)).1 then (bif decide (s (xE1 s (p + 2)).2 = 61) then xfin s (xE s ((xE1 s (p + 2)).2 + 1)) else (false, (xE1 s (p + 2)).2)) else xE1 s (p + 2)) else (false, p + 1)) = xfin s (bif decide (s (p + 1) = 91) then (bif (xE1 s (p + 2)).1 then (bif decide (s (xE1 s (p + 2)).2 = 61) then xE s ((xE1 s (p + 2)).2 + 1) else (false, (xE1 s (p + 2)).2)) else xE1 s (p + 2)) else (false, p + 1))
  cases decide (s (p + 1) = 91) with
  | false => rfl
  | true =>
    cases e : xE1 s (p + 2) with
    | mk b r =>
      cases b with
      | false => rfl
      | true =>
        show (bif decide (s r = 61) then xfin s (xE s (r + 1)) else (false, r)) = xfin s (bif decide (s r = 61) then xE s (r + 1) else (false, r))
        cases decide (s r = 61) <;> rfl
theorem xst_X (h : s p = 88) : xst s p = bif xvar (s (p + 1)) then (bif xvar (s (p + 2)) then xfin s (xE s (p + 3)) else (false, p + 2)) else (false, p + 1) := by
  unfold xst
  rw [decide_eq_false (show s p ≠ 79 by rw [h]; decide), decide_eq_false (show s p ≠ 82 by rw [h]; decide), decide_eq_false (show s p ≠ 76 by rw [h]; decide), decide_eq_true h]
  rfl
theorem xvar_x {c : Int32} (h : xvar c = true) (d : Int32) (hd : d.toInt < 97 ∨ 104 < d.toInt) : c ≠ d := by
  have := xvar_r h
  intro q
  rw [q] at this
  omega
theorem xst_V (h : xvar (s p) = true) : xst s p = bif decide (s (p + 1) = 61) then xfin s (xE s (p + 2)) else (false, p + 1) := by
  unfold xst
  rw [decide_eq_false (xvar_x h 79 (by decide)), decide_eq_false (xvar_x h 82 (by decide)), decide_eq_false (xvar_x h 76 (by decide)), decide_eq_false (xvar_x h 88 (by decide)), h]
  rfl
theorem xst_n (h1 : s p ≠ 79) (h2 : s p ≠ 82) (h3 : s p ≠ 76) (h4 : s p ≠ 88) (h : xvar (s p) = false) : xst s p = (false, p) := by
  unfold xst
  rw [decide_eq_false h1, decide_eq_false h2, decide_eq_false h3, decide_eq_false h4, h]
  rfl
theorem kF_v (h : xvar (s p) = true) : d_Re_kindFor (s p) = 0 := by
  unfold d_Re_kindFor
  rw [decide_eq_false (xvar_x h 42 (by decide)), decide_eq_false (xvar_x h 63 (by decide)), decide_eq_false (xvar_x h 76 (by decide)), decide_eq_false (xvar_x h 79 (by decide)), decide_eq_false (xvar_x h 82 (by decide)), decide_eq_false (xvar_x h 88 (by decide)), isV, h]
  rfl
theorem kF_n (h1 : s p ≠ 79) (h2 : s p ≠ 82) (h3 : s p ≠ 76) (h4 : s p ≠ 88) (h5 : s p ≠ 63) (h6 : s p ≠ 42) (h : xvar (s p) = false) : d_Re_kindFor (s p) = -1 := by
  unfold d_Re_kindFor
  rw [decide_eq_false h1, decide_eq_false h2, decide_eq_false h3, decide_eq_false h4, decide_eq_false h5, decide_eq_false h6, isV, h]
  rfl
end ZST
