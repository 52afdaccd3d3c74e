/-! the reference reckons what the text is worth -/
def EE (e : xEv) (l : Nat) (v : pd_V) : Prop := (∀ j, j < 8 → e.1 j = v 204 (8 * l + j)) ∧ (∀ j, j < 16 → e.2.1 j = v 203 j) ∧ (∀ j, j < 8 → e.2.2.1 j = v 205 (8 * l + j)) ∧ e.2.2.2 = Int32.ofNat (l % 8)
def KSV (v : pd_V) : xKV → Prop
  | [] => True
  | (c, sm, g) :: k => (c = 40 ∨ c = 73 ∨ c = 76) ∧ v 219 k.length = c ∧ v 220 k.length = sm ∧ v 221 k.length = g ∧ KSV v k
def RKQ (o : Option Int32) (r : Int32 × pd_V) : Prop := (∃ x, o = some x ∧ r.1 = x ∧ r.2 198 19 = 0) ∨ (o = none ∧ r.2 198 19 = 1)
def znv (s : Nat → Int32) (x : Int32) (p : Nat) : Nat → Int32
  | 0 => x
  | j + 1 => znv s ((10 * x + s p) - 48) (p + 1) j
section ZMK
variable {s : Nat → Int32} {n m w l p q : Nat} {v u t : pd_V} {x y sum sg : Int32} {e : xEv} {k : xKV}
theorem pf_sf {α : Type} {z : Option α} {P : α → Prop} (h : Sf z P) : Pf z P := by
  obtain ⟨c, e, p⟩ := h
  intro r hr
  have : c = r := Option.some.inj (e.symm.trans hr)
  rw [← this]
  exact p
theorem pf_and {α : Type} {z : Option α} {P Q : α → Prop} (h : Pf z P) (k : Pf z Q) : Pf z (fun r => P r ∧ Q r) := fun r e => ⟨h r e, k r e⟩
theorem EE_E (h : EE e l v) (f : ME v u) : EE e l u := ⟨fun j hj => by rw [f.1 204 (by decide) (by decide) (by decide) (by omega)]; exact h.1 j hj, fun j hj => by rw [f.1 203 (by decide) (by decide) (by decide) (by omega)]; exact h.2.1 j hj, fun j hj => by rw [f.1 205 (by decide) (by decide) (by decide) (by omega)]; exact h.2.2.1 j hj, h.2.2.2⟩
theorem KSV_e : ∀ {k : xKV}, KSV v k → (∀ j, j < k.length → u 219 j = v 219 j ∧ u 220 j = v 220 j ∧ u 221 j = v 221 j) → KSV u k
  | [], _, _ => trivial
  | (_, _, _) :: k, h, f => by
    obtain ⟨f1, f2, f3⟩ := f k.length (by show k.length < k.length + 1; omega)
    exact ⟨h.1, by rw [f1]; exact h.2.1, by rw [f2]; exact h.2.2.1, by rw [f3]; exact h.2.2.2.1, KSV_e h.2.2.2.2 (fun j hj => f j (by show j < k.length + 1; omega))⟩
theorem plv_n (hn : n ≤ 160) : ∀ (j p F : Nat) (v : pd_V) (x : Int32), TX n s v → At p v → p + j < n → (∀ i, p ≤ i → i < p + j → xdig (s i) = true) → xdig (s (p + j)) = false → Pf (d_Mo_plain_23 w F x v) (fun r => r.1 = znv s x p j ∧ (r.2 219 = v 219 ∧ r.2 220 = v 220 ∧ r.2 221 = v 221) ∧ r.2 198 19 = v 198 19) := by
  intro j
  induction j with
  | zero =>
    intro p F v x hT hA hp _ hd
    cases F with
    | zero => rw [d_Mo_plain_23]; exact pf_none
    | succ F =>
      unfold At at hA
      rw [d_Mo_plain_23, hA, cl_nat (by omega), hT.2 p (by omega)]
      refine pf_c (fun _ => ?_)
      have hd' : decide (d_Mo_beyond (s p) (48 : Int32) (57 : Int32) = 0) = false := hd
      rw [hd']
      exact pf_some ⟨rfl, ⟨rfl, rfl, rfl⟩, rfl⟩
  | succ j ih =>
    intro p F v x hT hA hp hd hd2
    cases F with
    | zero => rw [d_Mo_plain_23]; exact pf_none
    | succ F =>
      unfold At at hA
      rw [d_Mo_plain_23, hA, cl_nat (by omega), hT.2 p (by omega)]
      refine pf_c (fun _ => ?_)
      have hd' : decide (d_Mo_beyond (s p) (48 : Int32) (57 : Int32) = 0) = true := hd p (Nat.le_refl _) (by omega)
      rw [hd']
      refine pf_c (fun _ => ?_)
      have e : ME v (pd_w v 198 6 (Int32.ofNat p + (1 : Int32))) := ME_k ME_r (Or.inl rfl)
      refine pf_mono (ih (p + 1) F _ _ (TX_E hT e) ?_ (by omega) (fun i a b => hd i (by omega) (by omega)) ?_) (fun r hr => ⟨hr.1, ?_, ?_⟩)
      · show pd_w v 198 6 (Int32.ofNat p + (1 : Int32)) 198 6 = _
        rw [pd_w_self, ofN1]
      · rw [show p + 1 + j = p + (j + 1) by omega]
        exact hd2
      · rw [hr.2.1.1, hr.2.1.2.1, hr.2.1.2.2, pd_wa (by decide), pd_wa (by decide), pd_wa (by decide)]
        exact ⟨rfl, rfl, rfl⟩
      · rw [hr.2.2, pd_w_nk (by decide)]
theorem znv_v (hd : xdig (s p) = true) : znv s 0 p (xnum s p - p) = xval s p := by
  have z : ∀ y : Int32, (10 : Int32) * 0 + y = y := fun y => by rw [Int32.mul_zero, Int32.zero_add]
  unfold xnum xval
  cases c1 : xdig (s (p + 1)) with
  | false =>
    show znv s 0 p (p + 1 - p) = _
    rw [show p + 1 - p = 1 by omega]
    show (10 * 0 + s p) - 48 = _
    rw [z]
    rfl
  | true =>
    cases c2 : xdig (s (p + 2)) with
    | false =>
      show znv s 0 p (p + 2 - p) = _
      rw [show p + 2 - p = 2 by omega]
      show (10 * ((10 * 0 + s p) - 48) + s (p + 1)) - 48 = _
      rw [z, Int32.mul_comm 10]
      rfl
    | true =>
      show znv s 0 p (p + 3 - p) = _
      rw [show p + 3 - p = 3 by omega]
      show (10 * ((10 * ((10 * 0 + s p) - 48) + s (p + 1)) - 48) + s (p + 1 + 1)) - 48 = _
      rw [z, Int32.mul_comm 10, Int32.mul_comm 10]
      rfl
theorem lane_r : (List.range 16).all (fun l => decide (Int32.ofNat l - Int32.ofNat l / (8 : Int32) * (8 : Int32) = Int32.ofNat (l % 8))) = true := by decide +kernel
theorem lane_m (hl : l < 16) : Int32.ofNat l - Int32.ofNat l / (8 : Int32) * (8 : Int32) = Int32.ofNat (l % 8) := of_decide_eq_true (List.all_eq_true.mp lane_r l (List.mem_range.mpr hl))
theorem var_i {c : Int32} (hl : l < 16) (h : xvar c = true) : ((((8 : Int32) * Int32.ofNat l) + c) - (97 : Int32)).toNatClampNeg = 8 * l + (c - 97).toNatClampNeg := by
  have hr := vlet h
  have hv := xvar_r h
  have e8 := sI_8
  have el : (Int32.ofNat l).toInt = l := Int32.toInt_ofNat_of_lt (by omega)
  have e97 : (97 : Int32).toInt = 97 := by decide
  have e2 : ((8 : Int32) * Int32.ofNat l).toInt = 8 * (l : Int) := by rw [sI_mul (by rw [el, e8]; omega), el, e8]
  have e3 : ((8 : Int32) * Int32.ofNat l + c).toInt = 8 * (l : Int) + c.toInt := by rw [sI_add (by rw [e2]; omega), e2]
  have e4 : (((8 : Int32) * Int32.ofNat l + c) - (97 : Int32)).toInt = 8 * (l : Int) + c.toInt - 97 := by rw [sI_sub (by rw [e3, e97]; omega), e3, e97]
  have e5 : (c - (97 : Int32)).toInt = c.toInt - 97 := by rw [sI_sub (by rw [e97]; omega), e97]
  show (((8 : Int32) * Int32.ofNat l + c) - (97 : Int32)).toInt.toNat = 8 * l + (c - (97 : Int32)).toInt.toNat
  rw [e4, e5]
  omega
theorem cel_i {z : Int32} (hl : l < 16) (h : 0 ≤ z.toInt ∧ z.toInt ≤ 7) : (((8 : Int32) * Int32.ofNat l) + z).toNatClampNeg = 8 * l + z.toNatClampNeg := by
  have e8 := sI_8
  have el : (Int32.ofNat l).toInt = l := Int32.toInt_ofNat_of_lt (by omega)
  have e2 : ((8 : Int32) * Int32.ofNat l).toInt = 8 * (l : Int) := by rw [sI_mul (by rw [el, e8]; omega), el, e8]
  have e3 : ((8 : Int32) * Int32.ofNat l + z).toInt = 8 * (l : Int) + z.toInt := by rw [sI_add (by rw [e2]; omega), e2]
  show ((8 : Int32) * Int32.ofNat l + z).toInt.toNat = 8 * l + z.toInt.toNat
  rw [e3]
  omega
/-- a plain term -/
theorem plv_t (hn : n ≤ 160) (hl : l < 16) (hT : TX n s v) (hA : At p v) (hp : p < n) (hx : xdig (s p) = true ∨ s p = 110 ∨ xvar (s p) = true) (hq : q < n) (hEE : EE e l v) (h : (xdig (s p) = true → xrg s p (xnum s p) ∧ xnum s p ≤ q ∧ xdig (s (xnum s p)) = false)) : Pf (d_Mo_plain w (Int32.ofNat l) v) (fun r => r.1 = xpv s e p ∧ (r.2 219 = v 219 ∧ r.2 220 = v 220 ∧ r.2 221 = v 221) ∧ r.2 198 19 = v 198 19) := by
  have hA' : v 198 6 = Int32.ofNat p := hA
  unfold d_Mo_plain
  rw [hA', cl_nat (by omega), hT.2 p hp]
  refine pf_c (fun _ => ?_)
  cases e1 : xdig (s p) with
  | true =>
    have e' : decide (d_Mo_beyond (s p) (48 : Int32) (57 : Int32) = 0) = true := e1
    rw [e']
    obtain ⟨h1, h2, h3⟩ := h e1
    have h4 := h1.1
    have := plv_n (w := w) hn (xnum s p - p) p w v 0 hT hA (by omega) (fun i a b => xnum_d e1 i a (by omega)) (by rw [show p + (xnum s p - p) = xnum s p by omega]; exact h3)
    refine pf_mono this (fun r hr => ⟨?_, hr.2⟩)
    rw [hr.1, znv_v e1]
    unfold xpv
    rw [e1]
    rfl
  | false =>
    have e' : decide (d_Mo_beyond (s p) (48 : Int32) (57 : Int32) = 0) = false := e1
    rw [e']
    have fr : ∀ y : Int32, (pd_w v 198 6 y 219 = v 219 ∧ pd_w v 198 6 y 220 = v 220 ∧ pd_w v 198 6 y 221 = v 221) ∧ pd_w v 198 6 y 198 19 = v 198 19 := fun y => ⟨⟨pd_wa (by decide), pd_wa (by decide), pd_wa (by decide)⟩, pd_w_nk (by decide)⟩
    refine pf_n (fun c => ?_) (fun c => ?_)
    · have hv : xvar (s p) = true := by
        rcases hx with hx | hx | hx
        · rw [hx] at e1
          exact absurd e1 (by decide)
        · exact absurd hx c
        · exact hx
      have hr := vlet hv
      refine pf_c (fun _ => pf_some ⟨?_, fr (Int32.ofNat p + (1 : Int32))⟩)
      show v 204 ((((8 : Int32) * Int32.ofNat l) + s p) - (97 : Int32)).toNatClampNeg = xpv s e p
      unfold xpv
      rw [e1, decide_eq_false c, var_i hl hv]
      have hlt : (s p - 97).toNatClampNeg < 8 := by
        show (s p - (97 : Int32)).toInt.toNat < 8
        omega
      exact (hEE.1 _ hlt).symm
    · refine pf_c (fun _ => pf_some ⟨?_, fr (Int32.ofNat p + (1 : Int32))⟩)
      show Int32.ofNat l - Int32.ofNat l / (8 : Int32) * (8 : Int32) = xpv s e p
      unfold xpv
      rw [e1, decide_eq_true c, lane_m hl]
      exact hEE.2.2.2.symm
end ZMK
