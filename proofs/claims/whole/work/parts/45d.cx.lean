/-! the rounds of the class -/
/-- those at an X, once all are held -/
def zax (n : Nat) (Y : Nat → xAS) : Nat → Bool := fun l => !((Y l).2.2.2.2.2.2.2) && Nat.blt (Y l).1 n
def zb01 (b : Bool) : Nat := bif b then 1 else 0
def znc (f : Nat → Bool) : Nat := zb01 (f 0) + zb01 (f 1) + zb01 (f 2) + zb01 (f 3) + zb01 (f 4) + zb01 (f 5) + zb01 (f 6) + zb01 (f 7)
/-- the last one -/
def zlx (f : Nat → Bool) : Nat → Nat
  | 0 => 0
  | r + 1 => bif f r then r else zlx f r
/-- they exchange, and go behind the X -/
def zae (s : Nat → Int32) (n : Nat) (inp : Nat → Int32) (Y : Nat → xAS) : Nat → xAS := fun l =>
  bif zax n Y l then ((zbw s 200 (xns s (Y l).1 (Y l).2.1).2).1, (zbw s 200 (xns s (Y l).1 (Y l).2.1).2).2, zexc s n inp (Y (zlx (zax n Y) 8)).1 (s ((Y (zlx (zax n Y) 8)).1 + 1) - 97).toNatClampNeg (s ((Y (zlx (zax n Y) 8)).1 + 2) - 97).toNatClampNeg (zax n Y) (fun l => (Y l).2.2) l)
  else ((Y l).1, (Y l).2.1, zexc s n inp (Y (zlx (zax n Y) 8)).1 (s ((Y (zlx (zax n Y) 8)).1 + 1) - 97).toNatClampNeg (s ((Y (zlx (zax n Y) 8)).1 + 2) - 97).toNatClampNeg (zax n Y) (fun l => (Y l).2.2) l)
/-- round after round -/
def zrd (s : Nat → Int32) (n : Nat) (inp : Nat → Int32) : Nat → Nat → (Nat → xAS) → Option (Nat → xAS)
  | 0, _, _ => none
  | R + 1, L, Y => bif (zph s n inp 8 L Y).1 then (bif znone (zax n (zph s n inp 8 L Y).2.2) then some (zph s n inp 8 L Y).2.2 else bif Nat.ble (znc (zax n (zph s n inp 8 L Y).2.2)) (zph s n inp 8 L Y).2.1 then zrd s n inp R ((zph s n inp 8 L Y).2.1 - znc (zax n (zph s n inp 8 L Y).2.2)) (zae s n inp (zph s n inp 8 L Y).2.2) else none) else none
section YCX
variable {s : Nat → Int32} {n m w p p' q j e c o h r N i1 a b l z d L : Nat} {k k' k0 : xK} {inp : Nat → Int32} {D : xLD} {v u t : pd_V} {x y M : Int32} {Y YY : Nat → xAS} {f g : Nat → Bool}
theorem bi_n (b : Bool) : bi b = Int32.ofNat (zb01 b) := by cases b <;> rfl
theorem zpc_n : zpc f = Int32.ofNat (znc f) := by
  unfold zpc znc
  rw [Int32.ofNat_add, Int32.ofNat_add, Int32.ofNat_add, Int32.ofNat_add, Int32.ofNat_add, Int32.ofNat_add, Int32.ofNat_add]
  rw [bi_n, bi_n, bi_n, bi_n, bi_n, bi_n, bi_n, bi_n]
theorem zb01_1 (b : Bool) : zb01 b ≤ 1 := by cases b <;> decide
theorem znc_8 : znc f ≤ 8 := by
  unfold znc
  have := zb01_1 (f 0); have := zb01_1 (f 1); have := zb01_1 (f 2); have := zb01_1 (f 3); have := zb01_1 (f 4); have := zb01_1 (f 5); have := zb01_1 (f 6); have := zb01_1 (f 7)
  omega
theorem znc_1 (h : znone f = false) : 1 ≤ znc f := by
  unfold znc
  unfold znone at h
  cases h0 : f 0 with
  | true => show 1 ≤ 1 + _ + _ + _ + _ + _ + _ + _; omega
  | false =>
  cases h1 : f 1 with
  | true => show 1 ≤ 0 + 1 + _ + _ + _ + _ + _ + _; omega
  | false =>
  cases h2 : f 2 with
  | true => show 1 ≤ 0 + 0 + 1 + _ + _ + _ + _ + _; omega
  | false =>
  cases h3 : f 3 with
  | true => show 1 ≤ 0 + 0 + 0 + 1 + _ + _ + _ + _; omega
  | false =>
  cases h4 : f 4 with
  | true => show 1 ≤ 0 + 0 + 0 + 0 + 1 + _ + _ + _; omega
  | false =>
  cases h5 : f 5 with
  | true => show 1 ≤ 0 + 0 + 0 + 0 + 0 + 1 + _ + _; omega
  | false =>
  cases h6 : f 6 with
  | true => show 1 ≤ 0 + 0 + 0 + 0 + 0 + 0 + 1 + _; omega
  | false =>
  cases h7 : f 7 with
  | true => show 1 ≤ 0 + 0 + 0 + 0 + 0 + 0 + 0 + 1; omega
  | false =>
    rw [h0, h1, h2, h3, h4, h5, h6, h7] at h
    exact absurd h (by decide)
theorem zlx_t : ∀ (r i : Nat), i < r → f i = true → f (zlx f r) = true ∧ zlx f r < r := by
  intro r
  induction r with
  | zero => intro i h _; exact absurd h (Nat.not_lt_zero _)
  | succ r ih =>
    intro i hi hf
    show f (bif f r then r else zlx f r) = true ∧ (bif f r then r else zlx f r) < r + 1
    cases hr : f r with
    | true => exact ⟨hr, Nat.lt_succ_self r⟩
    | false =>
      have hne : i ≠ r := fun e => by rw [e, hr] at hf; exact absurd hf (by decide)
      obtain ⟨h1, h2⟩ := ih i (by omega) hf
      exact ⟨h1, Nat.lt_succ_of_lt h2⟩
theorem znone_x (h : znone f = false) : ∃ i, i < 8 ∧ f i = true := by
  by_cases c : ∃ i, i < 8 ∧ f i = true
  · exact c
  · have : znone f = true := znone_t (fun j hj => by
      cases hf : f j with
      | false => rfl
      | true => exact absurd ⟨j, hj, hf⟩ c)
    rw [this] at h
    exact absurd h (by decide)
theorem zlx_8 (h : znone f = false) : f (zlx f 8) = true ∧ zlx f 8 < 8 := by
  obtain ⟨i, hi, hf⟩ := znone_x h
  exact zlx_t 8 i hi hf
/-! the first half of a round -/
theorem zph_s {r : Nat} : zph s n inp (r + 1) L Y = (bif (zgl s n inp (7 - r) L (Y (7 - r))).1 then zph s n inp r (zgl s n inp (7 - r) L (Y (7 - r))).2.1 (zyu Y (7 - r) (zgl s n inp (7 - r) L (Y (7 - r))).2.2) else (false, (zgl s n inp (7 - r) L (Y (7 - r))).2.1, zyu Y (7 - r) (zgl s n inp (7 - r) L (Y (7 - r))).2.2)) := rfl
/-- what the lanes are behind it -/
def zok (s : Nat → Int32) (L : Nat) (Y : Nat → xAS) : Prop := ∀ l, l < 8 → xR s (Y l).1 (Y l).2.1 ∧ s (Y l).1 ≠ 125 ∧ (Y l).2.2.2.2.2.1 + L ≤ 4000
theorem zok_1 (hn : n ≤ 160) (h0 : ∀ j, n ≤ j → s j = 0) (hW : xR s n []) (hl : l < 8) (h : zok s L Y) : zok s (zgl s n inp l L (Y l)).2.1 (zyu Y l (zgl s n inp l L (Y l)).2.2) := by
  intro i hi
  have c := zgl_c (s := s) (n := n) (inp := inp) (l := l) L (Y l)
  by_cases e : i = l
  · rw [e, zyu_s]
    have r := zgl_R (inp := inp) (l := l) hn h0 hW L (Y l) (h l hl).1 (h l hl).2.1
    have := (h l hl).2.2
    exact ⟨r.1, r.2, by omega⟩
  · rw [zyu_n e]
    have := (h i hi).2.2
    exact ⟨(h i hi).1, (h i hi).2.1, by omega⟩
theorem zph_k (hn : n ≤ 160) (h0 : ∀ j, n ≤ j → s j = 0) (hW : xR s n []) : ∀ (r L : Nat) (Y : Nat → xAS), r ≤ 8 → zok s L Y → zok s (zph s n inp r L Y).2.1 (zph s n inp r L Y).2.2 ∧ (zph s n inp r L Y).2.1 ≤ L := by
  intro r
  induction r with
  | zero => intro L Y _ h; exact ⟨h, Nat.le_refl _⟩
  | succ r ih =>
    intro L Y hr h
    have h1 := zok_1 (inp := inp) (l := 7 - r) hn h0 hW (by omega) h
    have c := zgl_c (s := s) (n := n) (inp := inp) (l := 7 - r) L (Y (7 - r))
    rw [zph_s]
    cases hg : (zgl s n inp (7 - r) L (Y (7 - r))).1 with
    | false => exact ⟨h1, c.1⟩
    | true =>
      have h2 := ih _ _ (by omega) h1
      exact ⟨h2.1, Nat.le_trans h2.2 c.1⟩
theorem zph_n : ∀ (r L : Nat) (Y : Nat → xAS) (i : Nat), r ≤ 8 → (i < 8 - r ∨ 8 ≤ i) → (zph s n inp r L Y).2.2 i = Y i := by
  intro r
  induction r with
  | zero => intro L Y i _ _; rfl
  | succ r ih =>
    intro L Y i hr hi
    rw [zph_s]
    cases hg : (zgl s n inp (7 - r) L (Y (7 - r))).1 with
    | false => exact zyu_n (by omega)
    | true =>
      have := ih (zgl s n inp (7 - r) L (Y (7 - r))).2.1 (zyu Y (7 - r) (zgl s n inp (7 - r) L (Y (7 - r))).2.2) i (by omega) (by omega)
      exact this.trans (zyu_n (by omega))
theorem zph_T : ∀ (r L : Nat) (Y : Nat → xAS), r ≤ 8 → (zph s n inp r L Y).1 = true → ∀ l, 8 - r ≤ l → l < 8 → zhl s n ((zph s n inp r L Y).2.2 l) = true := by
  intro r
  induction r with
  | zero => intro L Y _ _ l h1 h2; omega
  | succ r ih =>
    intro L Y hr h l h1 h2
    rw [zph_s] at h ⊢
    cases hg : (zgl s n inp (7 - r) L (Y (7 - r))).1 with
    | false => rw [hg] at h; exact absurd (show false = true from h) (by decide)
    | true =>
      rw [hg] at h
      have h : (zph s n inp r (zgl s n inp (7 - r) L (Y (7 - r))).2.1 (zyu Y (7 - r) (zgl s n inp (7 - r) L (Y (7 - r))).2.2)).1 = true := h
      show zhl s n ((zph s n inp r (zgl s n inp (7 - r) L (Y (7 - r))).2.1 (zyu Y (7 - r) (zgl s n inp (7 - r) L (Y (7 - r))).2.2)).2.2 l) = true
      by_cases e : l = 7 - r
      · rw [zph_n r _ _ l (by omega) (by omega), e, zyu_s]
        exact zgl_T L _ hg
      · exact ih _ _ (by omega) h l (by omega) h2
/-- the class's first half -/
theorem ycp_m {K : Nat → Int32 → pd_V → Option pd_V} {Q : pd_V → Prop} {l2 : Int32} (hw : 4294967296 < w) (hn : n ≤ 160) (h0 : ∀ j, n ≤ j → s j = 0) (ha : ker a) (hN : N ≤ 80) (hi1 : i1 ≤ 160) (hx : xit s N (0, []) = some (n, [])) : ∀ (r L : Nat) (Y : Nat → xAS) (v : pd_V) (F : Nat), r ≤ 8 → L ≤ 4000 → zok s L Y → KNL s n N i1 a v → CAP s inp Y v → v 186 3 = Int32.ofNat L → ((zph s n inp r L Y).1 = true → ∀ u, KNL s n N i1 a u → CAP s inp (zph s n inp r L Y).2.2 u → u 186 3 = Int32.ofNat (zph s n inp r L Y).2.1 → u 186 1 = v 186 1 → (∀ d, d < 186 → u d = v d) → Pf (K a l2 u) Q) → ((zph s n inp r L Y).1 = false → ∀ u, u 186 1 = v 186 1 → (∀ d, d < 186 → u d = v d) → Q u) → Pf (d_Ap_goThrough_11 K w F a l2 (Int32.ofNat (8 - r)) v) Q := by
  have hW : xR s n [] := ⟨N, hx⟩
  intro r
  induction r with
  | zero =>
    intro L Y v F _ _ hok hK hC h3 hk _
    cases F with
    | zero => rw [d_Ap_goThrough_11]; exact pf_none
    | succ F =>
      rw [d_Ap_goThrough_11, decide_eq_decide.mpr (lane8 (show 8 - 0 ≤ 8 by omega))]
      exact pf_d (fun _ => hk rfl v hK hC h3 rfl (fun _ _ => rfl)) (fun z => absurd (Nat.le_refl 8) z)
  | succ r ih =>
    intro L Y v F hr hL hok hK hC h3 hk hno
    cases F with
    | zero => rw [d_Ap_goThrough_11]; exact pf_none
    | succ F =>
      rw [d_Ap_goThrough_11, decide_eq_decide.mpr (lane8 (show 8 - (r + 1) ≤ 8 by omega))]
      refine pf_d (fun z => by omega) (fun _ => ?_)
      have hl : 7 - r < 8 := by omega
      have e7 : 8 - (r + 1) = 7 - r := by omega
      rw [e7]
      obtain ⟨hj, hD⟩ := hC.2 (7 - r) hl
      obtain ⟨ok1, ok2, ok3⟩ := hok (7 - r) hl
      unfold d_Ap_goesOn
      refine pf_bind (ygo_m hw hn h0 ha hN hi1 hx hl L (Y (7 - r)) v w hK hC.1 hj hD ok2 h3 hL ok3) (fun q2 h2 => ?_)
      obtain ⟨r1, r2, r3, r4, r5, r6, r7, r8, r9⟩ := h2
      have K2 := KNL_q ha hN hK (fun d hd => r9 d (by omega))
      have c := zgl_c (s := s) (n := n) (inp := inp) (l := 7 - r) L (Y (7 - r))
      have C2 : CAP s inp (zyu Y (7 - r) (zgl s n inp (7 - r) L (Y (7 - r))).2.2) q2.2 := by
        refine ⟨r6, fun l' hl' => ?_⟩
        by_cases e : l' = 7 - r
        · rw [e, zyu_s]
          exact ⟨r3, r4⟩
        · rw [zyu_n e]
          obtain ⟨⟨j', x1, x2⟩, x3⟩ := hC.2 l' hl'
          exact ⟨⟨j', x1, by rw [r7 l' e]; exact x2⟩, r5 l' _ hl' e x3⟩
      have ok' := zok_1 (inp := inp) hn h0 hW hl hok
      rw [zph_s] at hk hno
      rw [r1]
      cases hg : (zgl s n inp (7 - r) L (Y (7 - r))).1 with
      | false =>
        rw [hg] at hno
        exact pf_n (fun z => absurd rfl z) (fun _ => pf_some (hno rfl q2.2 (r8 1 (by decide)) r9))
      | true =>
        rw [hg] at hk hno
        refine pf_n (fun _ => ?_) (fun z => absurd z (by decide))
        rw [ofN1, show 7 - r + 1 = 8 - r by omega]
        exact ih _ _ q2.2 F (by omega) (by omega) ok' K2 C2 r2 (fun t u u1 u2 u3 u4 u5 => hk t u u1 u2 u3 (u4.trans (r8 1 (by decide))) (fun d hd => (u5 d hd).trans (r9 d hd))) (fun t u u1 u2 => hno t u (u1.trans (r8 1 (by decide))) (fun d hd => (u2 d hd).trans (r9 d hd)))
end YCX
