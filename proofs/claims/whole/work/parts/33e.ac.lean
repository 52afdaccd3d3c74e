/-! one statement, as the reference does it -/
def MA (v q : pd_V) : Prop := (∀ a, a ≠ 198 → ¬ (204 ≤ a ∧ a ≤ 209) → a ≠ 213 → a ≠ 214 → ¬ (219 ≤ a ∧ a ≤ 221) → q a = v a) ∧ (∀ k, k ≠ 6 → k ≠ 19 → q 198 k = v 198 k)
/-- the numbers that a lane has put: one more at most, and in that lane -/
def PG (l : Nat) (v q : pd_V) : Prop := (∀ j, j ≠ l → q 207 j = v 207 j) ∧ (q 207 l = v 207 l ∨ q 207 l = v 207 l + 1)
section AC
variable {s : Nat → Int32} {n w : Nat} {v u q : pd_V} {p e l : Nat} {x : Int32}
theorem MA_r : MA v v := ⟨fun _ _ _ _ _ _ => rfl, fun _ _ _ => rfl⟩
theorem MA_t (h1 : MA v u) (h2 : MA u q) : MA v q := ⟨fun a b c d e f => (h2.1 a b c d e f).trans (h1.1 a b c d e f), fun k b c => (h2.2 k b c).trans (h1.2 k b c)⟩
theorem MA_w {a k : Nat} (h : MA v u) (ha : 204 ≤ a ∧ a ≤ 209 ∨ a = 213 ∨ a = 214 ∨ 219 ≤ a ∧ a ≤ 221) : MA v (pd_w u a k x) := ⟨fun b b1 b2 b3 b4 b5 => by rw [pd_wa (by omega)]; exact h.1 b b1 b2 b3 b4 b5, fun j b1 b2 => by rw [pd_w_ne (by omega)]; exact h.2 j b1 b2⟩
theorem MA_E (h : ME v q) : MA v q := ⟨fun a b1 b2 b3 b4 b5 => h.1 a b1 (by omega) (by omega) b5, h.2⟩
theorem TX_A (h : TX n s v) (e : MA v q) : TX n s q := ⟨by rw [e.2 4 (by decide) (by decide)]; exact h.1, fun j hj => by rw [e.1 200 (by decide) (by omega) (by decide) (by decide) (by omega)]; exact h.2 j hj⟩
theorem PG_r : PG l v v := ⟨fun _ _ => rfl, Or.inl rfl⟩
theorem PG_E (h : ME v q) : PG l v q := by
  have e : q 207 = v 207 := h.1 207 (by decide) (by decide) (by decide) (by omega)
  exact ⟨fun j _ => by rw [e], Or.inl (by rw [e])⟩
theorem PG_w {a k : Nat} (h : PG l v u) (ha : 207 ≠ a) : PG l v (pd_w u a k x) := ⟨fun j hj => by rw [pd_w_ne ha]; exact h.1 j hj, by rw [pd_w_ne ha]; exact h.2⟩
theorem xdig_59 (h : s e = 59) : xdig (s e) = false := by rw [h]; decide
theorem xdig_93 (h : s e = 93) : xdig (s e) = false := by rw [h]; decide
theorem xdig_123 (h : s e = 123) : xdig (s e) = false := by rw [h]; decide
theorem nvar {c : Int32} (h : xvar c = true) (hc : c.toInt < 97) : False := by have := xvar_r h; omega
theorem XS_O (h : XS s p e) (c : s p = 79) : xE s (p + 1) = (true, e) := by
  rcases h with ⟨-, h⟩ | ⟨h, -⟩ | ⟨h, -⟩ | ⟨h, -⟩ | ⟨h, -⟩
  · exact h
  · rw [h] at c; exact absurd c (by decide)
  · rw [h] at c; exact absurd c (by decide)
  · rw [h] at c; exact absurd c (by decide)
  · exact absurd h (by rw [c]; decide)
theorem XS_L (h : XS s p e) (c : s p = 76) : ∃ r, xp s 3 200 (p + 2) [] true = (true, r) ∧ s r = 93 ∧ s (r + 1) = 61 ∧ xE s (r + 2) = (true, e) := by
  rcases h with ⟨h, -⟩ | ⟨h, -⟩ | ⟨-, -, h⟩ | ⟨h, -⟩ | ⟨h, -⟩
  · rw [h] at c; exact absurd c (by decide)
  · rw [h] at c; exact absurd c (by decide)
  · exact h
  · rw [h] at c; exact absurd c (by decide)
  · exact absurd h (by rw [c]; decide)
theorem XS_X (h : XS s p e) (c : s p = 88) : xvar (s (p + 1)) = true ∧ xvar (s (p + 2)) = true ∧ xE s (p + 3) = (true, e) := by
  rcases h with ⟨h, -⟩ | ⟨h, -⟩ | ⟨h, -⟩ | ⟨-, h⟩ | ⟨h, -⟩
  · rw [h] at c; exact absurd c (by decide)
  · rw [h] at c; exact absurd c (by decide)
  · rw [h] at c; exact absurd c (by decide)
  · exact h
  · exact absurd h (by rw [c]; decide)
theorem XS_V (h : XS s p e) (c1 : s p ≠ 79) (c2 : s p ≠ 82) (c3 : s p ≠ 76) (c4 : s p ≠ 88) : xvar (s p) = true ∧ xE s (p + 2) = (true, e) := by
  rcases h with ⟨h, -⟩ | ⟨h, -⟩ | ⟨h, -⟩ | ⟨h, -⟩ | ⟨h, -, h2⟩
  · exact absurd h c1
  · exact absurd h c2
  · exact absurd h c3
  · exact absurd h c4
  · exact ⟨h, h2⟩
theorem vin {c : Int32} (hl : l < 16) (h : xvar c = true) : pm_in ((((8 : Int32) * Int32.ofNat l) + c) - (97 : Int32)) 128 = true := by
  have hr := xvar_r h
  have e8 := sI_8
  have el : (Int32.ofNat l).toInt = l := Int32.toInt_ofNat_of_lt (by omega)
  have e97 : (97 : Int32).toInt = 97 := by decide
  have e2 : ((8 : Int32) * Int32.ofNat l).toInt = 8 * (l : Int) := by rw [sI_mul (by rw [el, e8]; omega), el, e8]
  have e3 : ((8 : Int32) * Int32.ofNat l + c).toInt = 8 * (l : Int) + c.toInt := by rw [sI_add (by rw [e2]; omega), e2]
  refine pin ?_
  rw [sI_sub (by rw [e3, e97]; omega), e3, e97]
  omega
theorem kin {y : Int32} (hl : l < 16) (h : 0 ≤ y.toInt ∧ y.toInt < 20) : pm_in (((20 : Int32) * Int32.ofNat l) + y) 320 = true := by
  have e20 := sI_20
  have el : (Int32.ofNat l).toInt = l := Int32.toInt_ofNat_of_lt (by omega)
  have e2 : ((20 : Int32) * Int32.ofNat l).toInt = 20 * (l : Int) := by rw [sI_mul (by rw [el, e20]; omega), el, e20]
  refine pin ?_
  rw [sI_add (by rw [e2]; omega), e2]
  omega
theorem ac_t (hw : 4294967296 < w) (hn : n ≤ 160) (hl : l < 16) (hT : TX n s v) (he : e < n) (hp : p < e) (hs : s e = 59) (hX : XS s p e) (h88 : s p ≠ 88) (hP : 0 ≤ (v 207 l).toInt) : Sf (d_Mo_act w (Int32.ofNat l) (Int32.ofNat p) v) (fun q => MA v q ∧ PG l v q) := by
  have il : pm_in (Int32.ofNat l) 16 = true := in_nat hl (by omega)
  have cl : (Int32.ofNat l).toNatClampNeg = l := cl_nat (by omega)
  unfold d_Mo_act
  rw [cl_nat (show p ≤ 1000 by omega), hT.2 p (by omega), cl]
  refine sf_c (in_nat (by omega) (by omega)) ?_
  refine sf_n (fun c82 => ?_) (fun c82 => sf_c il (sf_some ⟨MA_w MA_r (by omega), PG_w PG_r (by decide)⟩))
  refine sf_n (fun c79 => ?_) (fun c79 => ?_)
  · refine sf_n (fun c76 => ?_) (fun c76 => ?_)
    · obtain ⟨hv, hE⟩ := XS_V hX c79 c82 c76 h88
      rw [ofN2]
      refine sf_bind (va_t (m := 4) (fx := 200) hw hn (by omega) hl he (xdig_59 hs) (by omega) hT hE) (fun r hr => ?_)
      refine sf_c il ?_
      refine sf_n (fun _ => sf_some ⟨MA_E hr.1, PG_E hr.1⟩) (fun _ => ?_)
      exact sf_c (vin hl hv) (sf_some ⟨MA_w (MA_E hr.1) (by omega), PG_w (PG_E hr.1) (by decide)⟩)
    · obtain ⟨r0, hE1, h93, h61, hE2⟩ := XS_L hX c76
      have hr0 := (xE_g hE2).2
      rw [ofN2]
      refine sf_bind (va_t (m := 3) (fx := 200) (q := r0) hw hn (by omega) hl (by omega) (xdig_93 h93) (by omega) hT hE1) (fun r hr => ?_)
      refine sf_c il ?_
      refine sf_d (fun c => ?_) (fun c => ?_)
      · have hA : r.2 198 6 = Int32.ofNat r0 := hr.2 c
        rw [hA, ofN2]
        refine sf_bind (va_t (m := 4) (fx := 200) hw hn (by omega) hl he (xdig_59 hs) (by omega) (TX_E hT hr.1) hE2) (fun r2 hr2 => ?_)
        have e2 := ME_t hr.1 hr2.1
        refine sf_c il ?_
        refine sf_d (fun c2 => ?_) (fun c2 => sf_some ⟨MA_E e2, PG_E e2⟩)
        refine sf_d (fun b => ?_) (fun _ => sf_c il (sf_c il (sf_some ⟨MA_w (MA_w (MA_E e2) (by omega)) (by omega), PG_w (PG_w (PG_E e2) (by decide)) (by decide)⟩)))
        have b2 := bey0 b
        have e7 : (7 : Int32).toInt = 7 := by decide
        have ez := sI_0
        exact sf_c (in_lane (N := 0) hl (by omega)) (sf_some ⟨MA_w (MA_E e2) (by omega), PG_w (PG_E e2) (by decide)⟩)
      · refine sf_c il ?_
        exact sf_d (fun c2 => absurd c2 c) (fun _ => sf_some ⟨MA_E hr.1, PG_E hr.1⟩)
  · have hE := XS_O hX c79
    rw [ofN1]
    refine sf_bind (va_t (m := 4) (fx := 200) hw hn (by omega) hl he (xdig_59 hs) (by omega) hT hE) (fun r hr => ?_)
    refine sf_c il ?_
    refine sf_d (fun c => ?_) (fun c => sf_some ⟨MA_E hr.1, PG_E hr.1⟩)
    have e207 : r.2 207 = v 207 := hr.1.1 207 (by decide) (by decide) (by decide) (by omega)
    have g : PG l v (pd_w r.2 207 l (r.2 207 l + (1 : Int32))) := ⟨fun j hj => by rw [pd_w_nk hj, e207], Or.inr (by rw [pd_w_self, e207])⟩
    refine sf_c il ?_
    refine sf_le (show (20 : Int32).toInt = 20 from by decide) rfl (fun c2 => ?_) (fun c2 => ?_)
    · exact sf_c il (sf_c il (sf_some ⟨MA_w (MA_E hr.1) (by omega), g⟩))
    · have hP2 : 0 ≤ (r.2 207 l).toInt := by rw [e207]; exact hP
      refine sf_c il (sf_c (kin hl (by omega)) (sf_c il (sf_c il (sf_some ⟨MA_w (MA_w (MA_E hr.1) (by omega)) (by omega), ?_⟩))))
      exact ⟨fun j hj => by show pd_w (pd_w r.2 206 _ r.1) 207 l _ 207 j = _; rw [pd_w_nk hj, pd_w_ne (by decide), e207], Or.inr (by show pd_w (pd_w r.2 206 _ r.1) 207 l _ 207 l = _; rw [pd_w_self, e207])⟩
/-! lanes one after the other -/
theorem lane8 {l : Nat} (h : l ≤ 8) : ((8 : Int32) ≤ Int32.ofNat l) ↔ 8 ≤ l := by
  have := le_nat (a := 8) (b := l) (by omega) (by omega)
  constructor
  · intro q
    have h2 : decide (Int32.ofNat 8 ≤ Int32.ofNat l) = true := decide_eq_true q
    rw [this] at h2
    exact of_decide_eq_true h2
  · intro q
    have h2 : decide (8 ≤ l) = true := decide_eq_true q
    rw [← this] at h2
    exact of_decide_eq_true h2
theorem tr_m {x y : Int32} {r : Nat} (hw : 4294967296 < w) (hn : n ≤ 160) (hr : r < n) (hs : xdig (s r) = false) (hE : xE s p = (true, r)) : ∀ (f l : Nat) (z : Int32) (v : pd_V), TX n s v → l ≤ 8 → 8 - l < f → Sf (d_Mo_truth_6 w f x (Int32.ofNat p) y z (Int32.ofNat l) v) (fun q => ME v q.2) := by
  intro f
  induction f with
  | zero => intro l z v _ _ h; exact absurd h (Nat.not_lt_zero _)
  | succ f ih =>
    intro l z v hT hl hf
    rw [d_Mo_truth_6, decide_eq_decide.mpr (lane8 hl)]
    refine sf_d (fun _ => sf_some ME_r) (fun c => ?_)
    rw [ofN1 l]
    refine sf_n (fun _ => ?_) (fun _ => ih (l + 1) _ v hT (by omega) (by omega))
    refine sf_bind (va_t (m := 4) (fx := 200) hw hn (by omega) (show l < 16 by omega) hr hs (by omega) hT hE) (fun q3 h3 => ?_)
    have go : ∀ z', Sf (d_Mo_truth_6 w f x (Int32.ofNat p) y z' (Int32.ofNat (l + 1)) q3.2) (fun q => ME v q.2) := fun z' => sf_mono (ih (l + 1) z' q3.2 (TX_E hT h3.1) (by omega) (by omega)) (fun q hq => ME_t h3.1 hq)
    refine sf_d (fun _ => go _) (fun _ => ?_)
    refine sf_c (in_nat (by omega) (by omega)) ?_
    exact sf_n (fun _ => go _) (fun _ => go _)
theorem tr_t {x y : Int32} {r : Nat} (hw : 4294967296 < w) (hn : n ≤ 160) (hr : r < n) (hs : xdig (s r) = false) (hE : xE s p = (true, r)) (hT : TX n s v) : Sf (d_Mo_truth w x (Int32.ofNat p) y v) (fun q => ME v q.2) := by
  unfold d_Mo_truth
  exact tr_m hw hn hr hs hE w 0 _ v hT (by omega) (by omega)
theorem go_m {x : Int32} : ∀ (f l : Nat) (z : Int32), l ≤ 8 → 8 - l < f → Sf (d_Mo_going_4 w f x z (Int32.ofNat l) v) (fun _ => True) := by
  intro f
  induction f with
  | zero => intro l z _ h; exact absurd h (Nat.not_lt_zero _)
  | succ f ih =>
    intro l z hl hf
    rw [d_Mo_going_4, decide_eq_decide.mpr (lane8 hl)]
    refine sf_d (fun _ => sf_some trivial) (fun c => ?_)
    rw [ofN1 l]
    have go : ∀ z', Sf (d_Mo_going_4 w f x z' (Int32.ofNat (l + 1)) v) (fun _ => True) := fun z' => ih (l + 1) z' (by omega) (by omega)
    refine sf_n (fun _ => go _) (fun _ => ?_)
    refine sf_c (in_nat (by omega) (by omega)) ?_
    exact sf_n (fun _ => go _) (fun _ => go _)
theorem go_t {x : Int32} (hw : 4294967296 < w) : Sf (d_Mo_going w x v) (fun _ => True) := by
  unfold d_Mo_going
  exact go_m w 0 _ (by omega) (by omega)
/-! exchanging -/
theorem exin {a b : Nat} {y : Int32} (ha : a = 0 ∨ a = 8) (hb : b < 8) (h : 0 ≤ y.toInt ∧ y.toInt ≤ 7) : pm_in (((8 : Int32) * (Int32.ofNat a + Int32.ofNat b)) + y) 128 = true := by
  rw [← Int32.ofNat_add]
  exact in_lane (N := 0) (by omega) h
theorem ex_m1 {a : Nat} {x y : Int32} (ha : a = 0 ∨ a = 8) (hy : 0 ≤ y.toInt ∧ y.toInt ≤ 7) : ∀ (f l : Nat) (v : pd_V), l ≤ 8 → 8 - l < f → Sf (d_Mo_exchange_41 w f (Int32.ofNat a) x y (Int32.ofNat l) v) (fun q => MA v q ∧ q 207 = v 207) := by
  intro f
  induction f with
  | zero => intro l v _ h; exact absurd h (Nat.not_lt_zero _)
  | succ f ih =>
    intro l v hl hf
    rw [d_Mo_exchange_41, decide_eq_decide.mpr (lane8 hl)]
    refine sf_d (fun _ => sf_some ⟨MA_r, rfl⟩) (fun c => ?_)
    rw [ofN1 l]
    have go : ∀ (k : Nat) (z : Int32), Sf (d_Mo_exchange_41 w f (Int32.ofNat a) x y (Int32.ofNat (l + 1)) (pd_w v 204 k z)) (fun q => MA v q ∧ q 207 = v 207) := fun k z => sf_mono (ih (l + 1) _ (by omega) (by omega)) (fun q hq => ⟨MA_t (MA_w MA_r (by omega)) hq.1, hq.2.trans (pd_wa (by decide))⟩)
    refine sf_n (fun _ => ?_) (fun _ => ih (l + 1) v (by omega) (by omega))
    refine sf_c (in_nat (by omega) (by omega)) ?_
    refine sf_n (fun _ => sf_c (exin ha (by omega) hy) (go _ _)) (fun _ => ?_)
    exact sf_c in7 (sf_c (exin ha (by omega) hy) (go _ _))
theorem ex_m2 {a : Nat} {x y z : Int32} (hw : 4294967296 < w) (ha : a = 0 ∨ a = 8) (hy : 0 ≤ y.toInt ∧ y.toInt ≤ 7) (hz : 0 ≤ z.toInt ∧ z.toInt ≤ 7) : ∀ (f l : Nat) (v : pd_V), l ≤ 8 → 8 - l < f → Sf (d_Mo_exchange_3 w f (Int32.ofNat a) x y z (Int32.ofNat l) v) (fun q => MA v q ∧ q 207 = v 207) := by
  intro f
  induction f with
  | zero => intro l v _ h; exact absurd h (Nat.not_lt_zero _)
  | succ f ih =>
    intro l v hl hf
    rw [d_Mo_exchange_3, decide_eq_decide.mpr (lane8 hl)]
    refine sf_d (fun _ => ex_m1 ha hy w 0 v (by omega) (by omega)) (fun c => ?_)
    rw [ofN1 l]
    refine sf_c (exin ha (by omega) hz) (sf_c (in_nat (by omega) (by omega)) ?_)
    exact sf_mono (ih (l + 1) _ (by omega) (by omega)) (fun q hq => ⟨MA_t (MA_w MA_r (by omega)) hq.1, hq.2.trans (pd_wa (by decide))⟩)
theorem ex_t {a : Nat} {x y z : Int32} (hw : 4294967296 < w) (ha : a = 0 ∨ a = 8) (hy : 0 ≤ y.toInt ∧ y.toInt ≤ 7) (hz : 0 ≤ z.toInt ∧ z.toInt ≤ 7) : Sf (d_Mo_exchange w (Int32.ofNat a) x y z v) (fun q => MA v q ∧ q 207 = v 207) := by
  unfold d_Mo_exchange
  exact ex_m2 hw ha hy hz w 0 v (by omega) (by omega)
theorem vlet {c : Int32} (h : xvar c = true) : 0 ≤ (c - (97 : Int32)).toInt ∧ (c - (97 : Int32)).toInt ≤ 7 := by
  have := xvar_r h
  have e97 : (97 : Int32).toInt = 97 := by decide
  rw [sI_sub (by rw [e97]; omega), e97]
  omega
/-! a simple statement, in all lanes of a mask -/
def PS (i : Nat) (b : Int) (v : pd_V) : Prop := ∀ j, j < 8 → 0 ≤ (v 207 j).toInt ∧ (v 207 j).toInt ≤ (if j < i then b + 1 else b)
theorem PS_m {i : Nat} {b : Int} (h : PS i b v) : PS (i + 1) b v := fun j hj => by
  have := h j hj
  by_cases c : j < i
  · rw [if_pos c] at this
    rw [if_pos (by omega)]
    exact this
  · rw [if_neg c] at this
    by_cases c2 : j < i + 1
    · rw [if_pos c2]
      omega
    · rw [if_neg c2]
      exact this
theorem PS_g {i : Nat} {b : Int} (hb : b < 1000000) (h : PS i b v) (g : PG i v q) : PS (i + 1) b q := fun j hj => by
  have := h j hj
  by_cases c : j = i
  · subst c
    rw [if_neg (by omega)] at this
    rw [if_pos (by omega)]
    rcases g.2 with e | e
    · rw [e]; omega
    · rw [e, sI_add1 (by omega)]; omega
  · rw [g.1 j c]
    by_cases c2 : j < i
    · rw [if_pos c2] at this
      rw [if_pos (by omega)]
      exact this
    · rw [if_neg c2] at this
      rw [if_neg (by omega)]
      exact this
theorem si_m {x y : Int32} {b : Int} (hw : 4294967296 < w) (hn : n ≤ 160) (hb : b < 1000000) (he : e < n) (hp : p < e) (hs : s e = 59) (hX : XS s p e) (hy : (y = 0 ∧ s p ≠ 88) ∨ (y = 1 ∧ s p = 88)) : ∀ (f l : Nat) (z : Int32) (v : pd_V), TX n s v → PS l b v → l ≤ 8 → 8 - l < f → Sf (d_Mo_simple_23 w f (Int32.ofNat p) x y z (Int32.ofNat l) v) (fun q => MA v q ∧ PS 8 b q) := by
  intro f
  induction f with
  | zero => intro l z v _ _ _ h; exact absurd h (Nat.not_lt_zero _)
  | succ f ih =>
    intro l z v hT hP hl hf
    rw [d_Mo_simple_23, decide_eq_decide.mpr (lane8 hl)]
    refine sf_d (fun c => ?_) (fun c => ?_)
    · have e8 : l = 8 := by omega
      subst e8
      refine sf_d (fun _ => sf_some ⟨MA_r, hP⟩) (fun c0 => ?_)
      have h88 : s p = 88 := by
        rcases hy with ⟨h, -⟩ | ⟨-, h⟩
        · exact absurd h c0
        · exact h
      obtain ⟨v1, v2, hE⟩ := XS_X hX h88
      have hpe := (xE_g hE).2
      rw [ofN1, ofN2, cl_nat (show p + 1 ≤ 1000 by omega), cl_nat (show p + 2 ≤ 1000 by omega), hT.2 (p + 1) (by omega), hT.2 (p + 2) (by omega)]
      refine sf_c (in_nat (by omega) (by omega)) (sf_c (in_nat (by omega) (by omega)) ?_)
      refine sf_bind (ex_t (a := 0) hw (Or.inl rfl) (vlet v1) (vlet v2)) (fun q5 h5 => ?_)
      exact sf_some ⟨h5.1, fun j hj => by rw [h5.2]; exact hP j hj⟩
    · rw [ofN1 l]
      refine sf_n (fun _ => ?_) (fun _ => ih (l + 1) z v hT (PS_m hP) (by omega) (by omega))
      have hPl := hP l (by omega)
      refine sf_d (fun c0 => ?_) (fun c0 => ?_)
      · have h88 : s p ≠ 88 := by
          rcases hy with ⟨-, h⟩ | ⟨h, -⟩
          · exact h
          · rw [h] at c0
            exact absurd c0 (by decide)
        refine sf_bind (ac_t hw hn (show l < 16 by omega) hT he hp hs hX h88 hPl.1) (fun q8 h8 => ?_)
        have go : ∀ z', Sf (d_Mo_simple_23 w f (Int32.ofNat p) x y z' (Int32.ofNat (l + 1)) q8) (fun q => MA v q ∧ PS 8 b q) := fun z' => sf_mono (ih (l + 1) z' q8 (TX_A hT h8.1) (PS_g hb hP h8.2) (by omega) (by omega)) (fun q hq => ⟨MA_t h8.1 hq.1, hq.2⟩)
        refine sf_c (in_nat (by omega) (by omega)) ?_
        exact sf_d (fun _ => go _) (fun _ => go _)
      · have h88 : s p = 88 := by
          rcases hy with ⟨h, -⟩ | ⟨-, h⟩
          · exact absurd h c0
          · exact h
        obtain ⟨v1, v2, hE⟩ := XS_X hX h88
        rw [ofN3]
        refine sf_bind (va_t (m := 4) (fx := 200) hw hn (by omega) (show l < 16 by omega) he (xdig_59 hs) (by omega) hT hE) (fun q11 h11 => ?_)
        have e1 : MA v (pd_w q11.2 214 (Int32.ofNat l).toNatClampNeg q11.1) := MA_w (MA_E h11.1) (by omega)
        have e2 : PS (l + 1) b (pd_w q11.2 214 (Int32.ofNat l).toNatClampNeg q11.1) := PS_g hb hP (PG_w (PG_E h11.1) (by decide))
        have go : ∀ z', Sf (d_Mo_simple_23 w f (Int32.ofNat p) x y z' (Int32.ofNat (l + 1)) (pd_w q11.2 214 (Int32.ofNat l).toNatClampNeg q11.1)) (fun q => MA v q ∧ PS 8 b q) := fun z' => sf_mono (ih (l + 1) z' _ (TX_A hT e1) e2 (by omega) (by omega)) (fun q hq => ⟨MA_t e1 hq.1, hq.2⟩)
        refine sf_c (in_nat (by omega) (by omega)) (sf_c (in_nat (by omega) (by omega)) ?_)
        exact sf_d (fun _ => go _) (fun _ => go _)
theorem si_t {x : Int32} {b : Int} (hw : 4294967296 < w) (hn : n ≤ 160) (hb : b < 1000000) (he : e < n) (hp : p < e) (hs : s e = 59) (hX : XS s p e) (hT : TX n s v) (hP : PS 0 b v) : Sf (d_Mo_simple w (Int32.ofNat p) x v) (fun q => MA v q ∧ PS 8 b q) := by
  unfold d_Mo_simple
  rw [cl_nat (show p ≤ 1000 by omega), hT.2 p (by omega)]
  refine sf_c (in_nat (by omega) (by omega)) ?_
  refine sf_n (fun c => ?_) (fun c => ?_)
  · exact si_m hw hn hb he hp hs hX (Or.inl ⟨rfl, c⟩) w 0 _ v hT hP (by omega) (by omega)
  · exact si_m hw hn hb he hp hs hX (Or.inr ⟨rfl, c⟩) w 0 _ v hT hP (by omega) (by omega)
end AC
