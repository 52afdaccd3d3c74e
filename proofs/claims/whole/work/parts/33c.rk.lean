/-! the reference over a text: scans -/
theorem ofN2 (k : Nat) : Int32.ofNat k + (2 : Int32) = Int32.ofNat (k + 2) := (Int32.ofNat_add k 2).symm
theorem ofN3 (k : Nat) : Int32.ofNat k + (3 : Int32) = Int32.ofNat (k + 3) := (Int32.ofNat_add k 3).symm
theorem ofNm (k : Nat) : Int32.ofNat (k + 1) + (-1 : Int32) = Int32.ofNat k := by rw [dm1, dec_ofNat]
theorem eq_nat {a b : Nat} (ha : a ≤ 1000) (hb : b ≤ 1000) : decide (Int32.ofNat a = Int32.ofNat b) = decide (a = b) := by
  by_cases c : a = b
  · rw [c, decide_eq_true rfl, decide_eq_true rfl]
  · rw [decide_eq_false c, decide_eq_false]
    intro q
    have h1 := cl_nat ha
    rw [q, cl_nat hb] at h1
    exact c h1.symm
theorem le0 {j : Nat} (h : j ≤ 1000) : decide (Int32.ofNat j ≤ (0 : Int32)) = decide (j ≤ 0) := by
  rw [show (0 : Int32) = Int32.ofNat 0 from rfl, le_nat h (by omega)]
theorem eq0 {j : Nat} (h : j ≤ 1000) : decide (Int32.ofNat j = (0 : Int32)) = decide (j = 0) := by
  rw [show (0 : Int32) = Int32.ofNat 0 from rfl, eq_nat h (by omega)]
theorem up_m {w a c q : Nat} {x : Int32} {v : pd_V} (hq : q < 160) (h : v a q = x) : ∀ (f p : Nat), p ≤ q → (∀ j, p ≤ j → j < q → v a j ≠ x) → q - p < f → d_Mo_upTo_3 w f a 160 x x (Int32.ofNat p) v = some (Int32.ofNat q) := by
  intro f
  induction f with
  | zero => intro p _ _ h; exact absurd h (Nat.not_lt_zero _)
  | succ f ih =>
    intro p hp hn hf
    rw [d_Mo_upTo_3, in_nat (show p < 160 by omega) (by omega), cl_nat (by omega)]
    by_cases e : p = q
    · subst e
      rw [decide_eq_true h]
      rfl
    · rw [decide_eq_false (hn p (Nat.le_refl _) (by omega)), ofN1]
      exact ih (p + 1) (by omega) (fun j a b => hn j (by omega) b) (by omega)
theorem up_t {w a p q : Nat} {x : Int32} {v : pd_V} (hw : 4294967296 < w) (hq : q < 160) (h : v a q = x) (hp : p ≤ q) (hn : ∀ j, p ≤ j → j < q → v a j ≠ x) : d_Mo_upTo w a 160 (Int32.ofNat p) x x v = some (Int32.ofNat q) := by
  unfold d_Mo_upTo
  exact up_m (c := 0) hq h w p hp hn (by omega)
theorem xbh_lt {s : Nat → Int32} : ∀ (f d p r : Nat), xbh s f d p = some r → p < r := by
  intro f
  induction f with
  | zero => intro d p r h; exact nomatch h
  | succ f ih =>
    intro d p r h
    rw [xbh] at h
    rcases pd_cases h with ⟨c, h⟩ | ⟨c, h⟩
    · rcases pd_cases h with ⟨c2, h⟩ | ⟨c2, h⟩
      · have := Option.some.inj h
        omega
      · have := ih _ _ _ h
        omega
    · rcases pd_cases h with ⟨c2, h⟩ | ⟨c2, h⟩
      · have := ih _ _ _ h
        omega
      · have := ih _ _ _ h
        omega
theorem bh_m {w a n c : Nat} {s : Nat → Int32} {v : pd_V} (hn : n ≤ 160) (hc : c < n) (hv : ∀ j, j < n → v a j = s j) : ∀ (f d p F : Nat), xbh s f d p = some (c + 1) → d + f ≤ 900 → f ≤ F → d_Mo_behind_4 w F a 160 (Int32.ofNat d) (Int32.ofNat p) v = some (Int32.ofNat (c + 1)) := by
  intro f
  induction f with
  | zero => intro d p F h; exact nomatch h
  | succ f ih =>
    intro d p F h hd hF
    have hp := xbh_lt _ _ _ _ h
    obtain ⟨F, rfl⟩ : ∃ G, F = G + 1 := ⟨F - 1, by omega⟩
    rw [xbh] at h
    rw [d_Mo_behind_4, in_nat (show p < 160 by omega) (by omega), cl_nat (by omega), hv p (by omega)]
    rcases pd_cases h with ⟨c1, h⟩ | ⟨c1, h⟩
    · rw [c1]
      have e1 : decide (s p = 123) = false := decide_eq_false (by rw [of_decide_eq_true c1]; decide)
      rw [e1, show (1 : Int32) = Int32.ofNat 1 from rfl, le_nat (by omega) (by omega)]
      rcases pd_cases h with ⟨c2, h⟩ | ⟨c2, h⟩
      · have h3 := Option.some.inj h
        have c3 := Nat.le_of_ble_eq_true c2
        rw [decide_eq_true c3]
        have e : p = c := by omega
        subst e
        show some (Int32.ofNat p + Int32.ofNat 1) = _
        rw [← Int32.ofNat_add]
      · have c3 : ¬ d ≤ 1 := fun q => by rw [Nat.ble_eq_true_of_le q] at c2; exact absurd c2 (by decide)
        rw [decide_eq_false c3]
        obtain ⟨d, rfl⟩ : ∃ e, d = e + 1 := ⟨d - 1, by omega⟩
        show d_Mo_behind_4 w F a 160 (Int32.ofNat (d + 1) - (1 : Int32)) (Int32.ofNat p + (1 : Int32)) v = _
        rw [dec_ofNat, ofN1]
        exact ih d (p + 1) F h (by omega) (by omega)
    · rw [c1]
      rcases pd_cases h with ⟨c2, h⟩ | ⟨c2, h⟩
      · rw [c2]
        show d_Mo_behind_4 w F a 160 (Int32.ofNat d + (1 : Int32)) (Int32.ofNat p + (1 : Int32)) v = _
        rw [ofN1, ofN1]
        exact ih (d + 1) (p + 1) F h (by omega) (by omega)
      · rw [c2]
        show d_Mo_behind_4 w F a 160 (Int32.ofNat d) (Int32.ofNat p + (1 : Int32)) v = _
        rw [ofN1]
        exact ih d (p + 1) F h (by omega) (by omega)
/-! an expression -/
def At (p : Nat) (v : pd_V) : Prop := v 198 6 = Int32.ofNat p
def TX (n : Nat) (s : Nat → Int32) (v : pd_V) : Prop := v 198 4 = Int32.ofNat n ∧ ∀ j, j < n → v 200 j = s j
def ME (v q : pd_V) : Prop := (∀ a, a ≠ 198 → a ≠ 208 → a ≠ 209 → ¬ (219 ≤ a ∧ a ≤ 221) → q a = v a) ∧ (∀ k, k ≠ 6 → k ≠ 19 → q 198 k = v 198 k)
section RK
variable {s : Nat → Int32} {n m w : Nat} {v u q : pd_V} {p : Nat} {x : Int32}
theorem ME_r : ME v v := ⟨fun _ _ _ _ _ => rfl, fun _ _ _ => rfl⟩
theorem ME_t (h1 : ME v u) (h2 : ME u q) : ME v q := ⟨fun a b c d e => (h2.1 a b c d e).trans (h1.1 a b c d e), fun k b c => (h2.2 k b c).trans (h1.2 k b c)⟩
theorem ME_w {a k : Nat} (h : ME v u) (ha : a = 208 ∨ a = 209 ∨ 219 ≤ a ∧ a ≤ 221) : ME v (pd_w u a k x) := ⟨fun b b1 b2 b3 b4 => by rw [pd_wa (by omega)]; exact h.1 b b1 b2 b3 b4, fun j b1 b2 => by rw [pd_w_ne (by omega)]; exact h.2 j b1 b2⟩
theorem ME_k {k : Nat} (h : ME v u) (hk : k = 6 ∨ k = 19) : ME v (pd_w u 198 k x) := ⟨fun b b1 b2 b3 b4 => by rw [pd_wa b1]; exact h.1 b b1 b2 b3 b4, fun j b1 b2 => by rw [pd_w_nk (by omega)]; exact h.2 j b1 b2⟩
theorem TX_E (h : TX n s v) (e : ME v q) : TX n s q := ⟨by rw [e.2 4 (by decide) (by decide)]; exact h.1, fun j hj => by rw [e.1 200 (by decide) (by decide) (by decide) (by omega)]; exact h.2 j hj⟩
theorem ME_RB (h : ME v q) (k : Nat) (hk : k ≠ 6 ∧ k ≠ 19) : q 198 k = v 198 k := h.2 k hk.1 hk.2
theorem xdig_n {c : Int32} (h : c.toInt < 48 ∨ 57 < c.toInt) : xdig c = false := by
  cases e : xdig c
  · rfl
  · have := xdig_r e
    omega
theorem xvar_n {c : Int32} (h : c.toInt < 97 ∨ 104 < c.toInt) : xvar c = false := by
  cases e : xvar c
  · rfl
  · have := xvar_r e
    omega
theorem xp_nd {f : Nat} {k : List Int32} {r : Nat} (h : xp s m f p k false = (true, r)) (hr : xdig (s r) = false) : xdig (s p) = false := by
  cases f with
  | zero => exact ft_ne h
  | succ f =>
    rw [xp] at h
    have h : (bif xsgn (s p) then xp s m f (p + 1) k true else bif k.isEmpty then (true, p) else bif decide (s p = xclo (k.headD 0)) then xp s m f (p + 1) k.tail false else (false, p)) = (true, r) := h
    rcases pd_cases h with ⟨c, h⟩ | ⟨c, h⟩
    · rcases xsgn_c c with e | e | e | e | e | e <;> (rw [e]; decide)
    · cases k with
      | nil =>
        have e : p = r := congrArg Prod.snd h
        rw [e]
        exact hr
      | cons c k =>
        have h : (bif decide (s p = xclo c) then xp s m f (p + 1) k false else (false, p)) = (true, r) := h
        rcases pd_cases h with ⟨c2, h⟩ | ⟨c2, h⟩
        · rw [of_decide_eq_true c2]
          rcases xclo_c c with e | e <;> (rw [e]; decide)
        · exact ft_ne h
/-- reading a number moves to its end -/
theorem pl_n {n : Nat} (hn : n ≤ 160) : ∀ (j p F : Nat) (v : pd_V) (x : Int32), TX n s v → At p v → p + j < n → (∀ i, p ≤ i → i < p + j → xdig (s i) = true) → xdig (s (p + j)) = false → j < F → Sf (d_Mo_plain_23 w F x v) (fun r => ME v r.2 ∧ At (p + j) r.2) := by
  intro j
  induction j with
  | zero =>
    intro p F v x hT hA hp _ hd hF
    obtain ⟨F, rfl⟩ : ∃ G, F = G + 1 := ⟨F - 1, by omega⟩
    unfold At at hA
    rw [d_Mo_plain_23, hA, cl_nat (by omega), hT.2 p (by omega)]
    refine sf_c (in_nat (by omega) (by omega)) ?_
    have hd' : decide (d_Mo_beyond (s p) (48 : Int32) (57 : Int32) = 0) = false := hd
    rw [hd']
    exact sf_some ⟨ME_r, hA⟩
  | succ j ih =>
    intro p F v x hT hA hp hd hd2 hF
    obtain ⟨F, rfl⟩ : ∃ G, F = G + 1 := ⟨F - 1, by omega⟩
    unfold At at hA
    rw [d_Mo_plain_23, hA, cl_nat (by omega), hT.2 p (by omega)]
    refine sf_c (in_nat (by omega) (by omega)) ?_
    have hd' : decide (d_Mo_beyond (s p) (48 : Int32) (57 : Int32) = 0) = true := hd p (Nat.le_refl _) (by omega)
    rw [hd']
    refine sf_c (in_nat (by omega) (by omega)) ?_
    have e : ME v (pd_w v 198 6 (Int32.ofNat p + (1 : Int32))) := ME_k ME_r (Or.inl rfl)
    refine sf_mono (ih (p + 1) F _ _ (TX_E hT e) ?_ (by omega) (fun i a b => hd i (by omega) (by omega)) ?_ (by omega)) (fun r hr => ⟨ME_t e hr.1, ?_⟩)
    · show pd_w v 198 6 (Int32.ofNat p + (1 : Int32)) 198 6 = _
      rw [pd_w_self, ofN1]
    · rw [show p + 1 + j = p + (j + 1) by omega]
      exact hd2
    · rw [show p + (j + 1) = p + 1 + j by omega]
      exact hr.2
theorem xnum_d {p : Nat} (h : xdig (s p) = true) : ∀ i, p ≤ i → i < xnum s p → xdig (s i) = true := by
  intro i a b
  unfold xnum at b
  cases c1 : xdig (s (p + 1)) with
  | false =>
    rw [c1] at b
    have b : i < p + 1 := b
    rw [show i = p by omega]
    exact h
  | true =>
    cases c2 : xdig (s (p + 2)) with
    | false =>
      rw [c1, c2] at b
      have b : i < p + 2 := b
      rcases (show i = p ∨ i = p + 1 by omega) with e | e <;> rw [e]
      · exact h
      · exact c1
    | true =>
      rw [c1, c2] at b
      have b : i < p + 3 := b
      rcases (show i = p ∨ i = p + 1 ∨ i = p + 2 by omega) with e | e | e <;> rw [e]
      · exact h
      · exact c1
      · exact c2
theorem in_lane {l : Nat} (hl : l < 16) {y : Int32} {N : Int} (h : 0 ≤ y.toInt ∧ y.toInt ≤ 7) : pm_in (((8 : Int32) * Int32.ofNat l) + y) 128 = true := by
  have e : (Int32.ofNat l).toInt = l := Int32.toInt_ofNat_of_lt (by omega)
  have e8 := sI_8
  have e2 : ((8 : Int32) * Int32.ofNat l).toInt = 8 * (l : Int) := by rw [sI_mul (by rw [e, e8]; omega), e, e8]
  refine pin ?_
  rw [sI_add (by rw [e2]; omega), e2]
  omega
/-- a plain term -/
theorem pl_t {l f : Nat} (hw : 4294967296 < w) (hn : n ≤ 160) (hl : l < 16) (hT : TX n s v) (hA : At p v) (hp : p < n) (hx : xdig (s p) = true ∨ s p = 110 ∨ xvar (s p) = true) {q : Nat} (hq : q < n) (h : (xdig (s p) = true → xrg s p (xnum s p) ∧ xnum s p ≤ q ∧ xdig (s (xnum s p)) = false)) : Sf (d_Mo_plain w (Int32.ofNat l) v) (fun r => ME v r.2 ∧ At (bif xdig (s p) then xnum s p else p + 1) r.2) := by
  have hA' : v 198 6 = Int32.ofNat p := hA
  unfold d_Mo_plain
  rw [hA', cl_nat (by omega), hT.2 p hp]
  refine sf_c (in_nat (by omega) (by omega)) ?_
  cases e : xdig (s p) with
  | true =>
    have e' : decide (d_Mo_beyond (s p) (48 : Int32) (57 : Int32) = 0) = true := e
    rw [e']
    obtain ⟨h1, h2, h3⟩ := h e
    have h4 := h1.1
    have := pl_n (w := w) hn (xnum s p - p) p w v 0 hT hA (by omega) (fun i a b => xnum_d e i a (by omega)) (by rw [show p + (xnum s p - p) = xnum s p by omega]; exact h3) (by omega)
    rw [show p + (xnum s p - p) = xnum s p by omega] at this
    exact this
  | false =>
    have e' : decide (d_Mo_beyond (s p) (48 : Int32) (57 : Int32) = 0) = false := e
    rw [e']
    have hA2 : ∀ y : Int32, At (p + 1) (pd_w v 198 6 (Int32.ofNat p + (1 : Int32))) := fun _ => by
      show pd_w v 198 6 (Int32.ofNat p + (1 : Int32)) 198 6 = _
      rw [pd_w_self, ofN1]
    refine sf_n (fun c => ?_) (fun c => ?_)
    · have hv : xvar (s p) = true := by
        rcases hx with hx | hx | hx
        · rw [hx] at e
          exact absurd e (by decide)
        · exact absurd hx c
        · exact hx
      have hr := xvar_r hv
      refine sf_c ?_ (sf_some ⟨ME_k ME_r (Or.inl rfl), hA2 0⟩)
      have e8 := sI_8
      have el : (Int32.ofNat l).toInt = l := Int32.toInt_ofNat_of_lt (by omega)
      have e97 : (97 : Int32).toInt = 97 := by decide
      have e2 : ((8 : Int32) * Int32.ofNat l).toInt = 8 * (l : Int) := by rw [sI_mul (by rw [el, e8]; omega), el, e8]
      have e3 : ((8 : Int32) * Int32.ofNat l + s p).toInt = 8 * (l : Int) + (s p).toInt := by rw [sI_add (by rw [e2]; omega), e2]
      refine pin ?_
      rw [sI_sub (by rw [e3, e97]; omega), e3, e97]
      omega
    · refine sf_c (by decide) (sf_some ⟨ME_k ME_r (Or.inl rfl), hA2 0⟩)
end RK
