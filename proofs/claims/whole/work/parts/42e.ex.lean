/-! the exchange, and how many lanes a mask has -/
theorem tm8 (i : Int) : (0 ≤ i → i.tmod 8 = i % 8) ∧ (i < 0 → i.tmod 8 = -((-i) % 8)) := by
  refine ⟨fun h => Int.tmod_eq_emod_of_nonneg h, fun h => ?_⟩
  have h1 : i = -(-i) := by omega
  rw [h1, Int.neg_tmod, Int.tmod_eq_emod_of_nonneg (show 0 ≤ -i by omega)]
  omega
theorem and7_i (x : Int32) : (x &&& 7).toInt = x.toInt % 8 := by
  have h1 : (x &&& 7).toBitVec.toNat = x.toBitVec.toNat % 8 := by
    rw [Int32.toBitVec_and, BitVec.toNat_and, show (7 : Int32).toBitVec.toNat = 2 ^ 3 - 1 by decide, Nat.and_two_pow_sub_one_eq_mod]
  have h2 : (x &&& 7).toInt = (x &&& 7).toBitVec.toNat := by
    show (x &&& 7).toBitVec.toInt = _
    rw [BitVec.toInt_eq_toNat_of_lt (by rw [h1]; omega)]
  have h3 : x.toInt = x.toBitVec.toInt := rfl
  rw [h2, h1, h3, BitVec.toInt_eq_toNat_cond]
  have h4 := x.toBitVec.isLt
  split <;> omega
theorem sgn8 (x : Int32) : ((0 : Int32) ≤ x ^^^ 8) ↔ 0 ≤ x.toInt := by
  rw [Int32.le_iff_toInt_le, show (0 : Int32).toInt = 0 by decide]
  have e : ∀ y : Int32, 0 ≤ y.toInt ↔ y.toBitVec.msb = false := fun y => by
    show 0 ≤ y.toBitVec.toInt ↔ _
    rw [BitVec.msb_eq_toInt]
    constructor
    · intro h
      exact decide_eq_false (by omega)
    · intro h
      have := of_decide_eq_false h
      omega
  rw [e, e, Int32.toBitVec_xor, BitVec.msb_xor, show (8 : Int32).toBitVec.msb = false by decide, Bool.xor_false]
theorem rem8 (x : Int32) : (x - x / 8 * 8).toInt = x.toInt.tmod 8 := by
  have b := Int32.le_toInt x
  have b2 := Int32.toInt_lt x
  have e8 : (8 : Int32).toInt = 8 := by decide
  have h1 : (x / 8).toInt = x.toInt.tdiv 8 := by
    rw [Int32.toInt_div_of_ne_right _ _ (by decide), e8]
  have h5 : x.toInt = 8 * x.toInt.tdiv 8 + x.toInt.tmod 8 := (Int.mul_tdiv_add_tmod _ _).symm
  have h6 := tm8 x.toInt
  have h2 : (x / 8 * 8).toInt = x.toInt.tdiv 8 * 8 := by
    rw [sI_mul (by rw [h1, e8]; omega), h1, e8]
  rw [sI_sub (by rw [h2]; omega), h2]
  omega
theorem fmod8 {v : pd_V} (x : Int32) : d_Mat_floorMod x 8 v = some (x &&& 7) := by
  have r := rem8 x
  have a7 := and7_i x
  have e8 : (8 : Int32).toInt = 8 := by decide
  unfold d_Mat_floorMod
  rw [show decide ((8 : Int32) = 0) = false by decide]
  show (bif decide (0 ≤ (x ^^^ 8)) then some (x - x / 8 * 8) else bif decide ((x - x / 8 * 8) = 0) then some (x - x / 8 * 8) else some ((x - x / 8 * 8) + 8)) = _
  by_cases c : 0 ≤ x.toInt
  · rw [decide_eq_true ((sgn8 x).mpr c)]
    show some (x - x / 8 * 8) = _
    congr 1
    refine Int32.toInt_inj.mp ?_
    rw [r, a7, Int.tmod_eq_emod_of_nonneg c]
  · rw [decide_eq_false (fun z => c ((sgn8 x).mp z))]
    show (bif decide ((x - x / 8 * 8) = 0) then some (x - x / 8 * 8) else some ((x - x / 8 * 8) + 8)) = _
    have h5 : x.toInt = 8 * x.toInt.tdiv 8 + x.toInt.tmod 8 := (Int.mul_tdiv_add_tmod _ _).symm
    have h7 := (tm8 x.toInt).2 (by omega)
    by_cases z : x - x / 8 * 8 = 0
    · rw [decide_eq_true z]
      show some (x - x / 8 * 8) = _
      congr 1
      refine Int32.toInt_inj.mp ?_
      have z2 : (x - x / 8 * 8).toInt = 0 := by rw [z]; decide
      rw [r] at z2
      rw [r, a7]
      omega
    · rw [decide_eq_false z]
      show some ((x - x / 8 * 8) + 8) = _
      congr 1
      refine Int32.toInt_inj.mp ?_
      have z2 : x.toInt.tmod 8 ≠ 0 := fun q => z (Int32.toInt_inj.mp (by rw [r, q]; decide))
      rw [sI_add (by rw [r, e8]; omega), r, a7, e8]
      omega
def zmk8 (b0 b1 b2 b3 b4 b5 b6 b7 : Bool) : Int32 := (bif b0 then 1 else 0) ||| (bif b1 then 2 else 0) ||| (bif b2 then 4 else 0) ||| (bif b3 then 8 else 0) ||| (bif b4 then 16 else 0) ||| (bif b5 then 32 else 0) ||| (bif b6 then 64 else 0) ||| (bif b7 then 128 else 0)
def zpc (f : Nat → Bool) : Int32 := bi (f 0) + bi (f 1) + bi (f 2) + bi (f 3) + bi (f 4) + bi (f 5) + bi (f 6) + bi (f 7)
theorem bc_a : ∀ b0 b1 b2 b3 b4 b5 b6 b7 : Bool, d_Int_bitCount (zmk8 b0 b1 b2 b3 b4 b5 b6 b7) = bi b0 + bi b1 + bi b2 + bi b3 + bi b4 + bi b5 + bi b6 + bi b7 := by decide +kernel
theorem mk_a : ∀ b0 b1 b2 b3 b4 b5 b6 b7 : Bool, (List.range 32).all (fun j => zbt (zmk8 b0 b1 b2 b3 b4 b5 b6 b7) j == (match j with | 0 => b0 | 1 => b1 | 2 => b2 | 3 => b3 | 4 => b4 | 5 => b5 | 6 => b6 | 7 => b7 | _ => false)) = true := by decide +kernel
/-- what is given and heard -/
def zexc (s : Nat → Int32) (n : Nat) (inp : Nat → Int32) (p iv iw : Nat) (f : Nat → Bool) (DD : Nat → xLD) : Nat → xLD :=
  zup (zgo f (zup f (fun x D => (zdc s n inp x p (p + 3) D).2) DD 8)) (fun x D => zsv iv (bif zgo f (zup f (fun x D => (zdc s n inp x p (p + 3) D).2) DD 8) ((zdc s n inp x p (p + 3) (DD x)).1 &&& 7).toNatClampNeg then (zup f (fun x D => (zdc s n inp x p (p + 3) D).2) DD 8 ((zdc s n inp x p (p + 3) (DD x)).1 &&& 7).toNatClampNeg).1 iw else 0) D) (zup f (fun x D => (zdc s n inp x p (p + 3) D).2) DD 8) 8
section ZEX
variable {s : Nat → Int32} {n m w a b c l p q i i1 nb j e0 p1 : Nat} {v u t : pd_V} {x y M S : Int32} {inp : Nat → Int32} {D D' : xLD} {DD : Nat → xLD} {f h : Nat → Bool} {g : Nat → xLD → xLD}
theorem MK8_m : MK8 f (zmk8 (f 0) (f 1) (f 2) (f 3) (f 4) (f 5) (f 6) (f 7)) := fun j => by
  by_cases c : j < 32
  · have h := eq_of_beq (List.all_eq_true.mp (mk_a (f 0) (f 1) (f 2) (f 3) (f 4) (f 5) (f 6) (f 7)) j (List.mem_range.mpr c))
    rw [h]
    by_cases d : j < 8
    · rw [decide_eq_true d]
      rcases (show j = 0 ∨ j = 1 ∨ j = 2 ∨ j = 3 ∨ j = 4 ∨ j = 5 ∨ j = 6 ∨ j = 7 by omega) with z | z | z | z | z | z | z | z <;> (subst z; rfl)
    · rw [decide_eq_false d, Bool.false_and]
      split <;> first | omega | rfl
  · rw [decide_eq_false (show ¬ j < 8 by omega)]
    unfold zbt
    rw [BitVec.getLsbD_of_ge _ _ (by omega)]
    rfl
theorem bc_m (hM : MK8 f M) : d_Int_bitCount M = zpc f := by
  rw [MK8_u hM MK8_m]
  exact bc_a _ _ _ _ _ _ _ _
theorem and7_b (x : Int32) : ∃ k, k < 8 ∧ x &&& 7 = Int32.ofNat k := by
  have h := and7_i x
  obtain ⟨N, g1, g2⟩ := int_eq_ofNat_of_bounds (C := 7) (n := x &&& 7) (by decide) (by
    rw [Int32.le_iff_toInt_le, h, sI_0]
    omega) (by
    rw [Int32.le_iff_toInt_le, h]
    have : (Int32.ofNat 7).toInt = 7 := by decide
    rw [this]
    omega)
  exact ⟨N, by omega, g2⟩
theorem CRS_o {d k : Nat} (h : CRS c inp DD v) (hd : d = c + 8 ∨ d = c + 9) : CRS c inp DD (pd_w v d k x) := by
  refine ⟨fun j hj => by rw [pd_w_ne (by omega)]; exact h.1 j hj, fun l hl => ?_⟩
  have g := h.2 l hl
  exact ⟨fun j hj => by rw [pd_w_ne (by omega)]; exact g.1 j hj, fun j hj => by rw [pd_w_ne (by omega)]; exact g.2.1 j hj, fun j hj hc => by rw [pd_w_ne (by omega)]; exact g.2.2.1 j hj hc, by rw [pd_w_ne (by omega)]; exact g.2.2.2.1, by rw [pd_w_ne (by omega)]; exact g.2.2.2.2.1, by rw [pd_w_ne (by omega)]; exact g.2.2.2.2.2⟩
theorem zex_118 {iv : Nat} {H : Nat → Int32} (hc : crw c) (hbc : b < 172) (hiv : iv < 8) : ∀ (F l : Nat) (v : pd_V), l ≤ 8 → v b 5 = Int32.ofNat iv → MK8 h M → (∀ x, x < 8 → h x = true → v (c + 9) x = H x) → CRS c inp (zup h (fun x D => zsv iv (H x) D) DD l) v → Pf (d_Cr_exchange_118 w F c b M (Int32.ofNat l) v) (CRS c inp (zup h (fun x D => zsv iv (H x) D) DD 8)) := by
  have pc : c = 174 ∨ c = 187 := hc
  intro F
  induction F with
  | zero => intro l v _ _ _ _ _; rw [d_Cr_exchange_118]; exact pf_none
  | succ F ih =>
    intro l v hl h5 hM hH hC
    rw [d_Cr_exchange_118, decide_eq_decide.mpr (lane8 hl)]
    refine pf_d (fun z => ?_) (fun z => ?_)
    · have e : l = 8 := by omega
      subst e
      exact pf_some hC
    · have hl' : l < 8 := by omega
      rw [MK8_i hM hl', ofN1 l]
      cases hfl : h l with
      | false => exact pf_t (ih (l + 1) v (by omega) h5 hM hH (CRS_0 hC hfl))
      | true =>
        refine pf_f (pf_c (fun _ => pf_c (fun _ => ?_)))
        rw [h5, slot_e hl' hiv, cl_nat (by omega), cl_nat (by omega), hH l hl' hfl]
        have hD := hC.2 l hl'
        rw [zup_l] at hD
        have s1 := CR_2 (x := H l) hl' hiv hD
        refine ih (l + 1) _ (by omega) (by rw [pd_w_ne (by omega)]; exact h5) hM (fun x hx hh => by rw [pd_w_ne (by omega)]; exact hH x hx hh) (CRS_1 hl' hC hfl ⟨s1.1, s1.2, fun d hd => pd_wa (by omega)⟩)
theorem zex_58 {iv iw : Nat} {A : Nat → Nat} (hc : crw c) (hbc : b < 172) (hiv : iv < 8) (hiw : iw < 8) (hA : ∀ x, x < 8 → A x < 8) : ∀ (F l : Nat) (v : pd_V), l ≤ 8 → v b 5 = Int32.ofNat iv → v b 6 = Int32.ofNat iw → MK8 h M → CRS c inp DD v → (∀ x, x < 8 → h x = true → v (c + 8) x = Int32.ofNat (A x)) → (∀ x, x < l → h x = true → v (c + 9) x = (bif h (A x) then (DD (A x)).1 iw else 0)) → Pf (d_Cr_exchange_58 w F c b M (Int32.ofNat l) v) (CRS c inp (zup h (fun x D => zsv iv (bif h (A x) then (DD (A x)).1 iw else 0) D) DD 8)) := by
  have pc : c = 174 ∨ c = 187 := hc
  intro F
  induction F with
  | zero => intro l v _ _ _ _ _ _ _; rw [d_Cr_exchange_58]; exact pf_none
  | succ F ih =>
    intro l v hl h5 h6 hM hC h8 h9
    rw [d_Cr_exchange_58, decide_eq_decide.mpr (lane8 hl)]
    refine pf_d (fun z => ?_) (fun z => ?_)
    · have e : l = 8 := by omega
      subst e
      exact zex_118 hc hbc hiv w 0 v (by omega) h5 hM (fun x hx hh => h9 x hx hh) (by rw [zup_0]; exact hC)
    · have hl' : l < 8 := by omega
      rw [ofN1 l, cl_nat (show l ≤ 1000 by omega)]
      have next : ∀ (y : Int32), (h l = true → y = (bif h (A l) then (DD (A l)).1 iw else 0)) → Pf (d_Cr_exchange_58 w F c b M (Int32.ofNat (l + 1)) (pd_w v (c + 9) l y)) (CRS c inp (zup h (fun x D => zsv iv (bif h (A x) then (DD (A x)).1 iw else 0) D) DD 8)) := by
        intro y hy
        refine ih (l + 1) _ (by omega) (by rw [pd_w_ne (by omega)]; exact h5) (by rw [pd_w_ne (by omega)]; exact h6) hM (CRS_o hC (Or.inr rfl)) (fun x hx hh => by rw [pd_w_ne (by omega)]; exact h8 x hx hh) (fun x hx hh => ?_)
        by_cases e : x = l
        · rw [e, pd_w_self]
          rw [e] at hh
          exact hy hh
        · rw [pd_w_nk e]
          exact h9 x (by omega) hh
      refine pf_c (fun _ => ?_)
      cases hfl : h l with
      | false =>
        refine pf_b (pf_c (fun _ => next _ (fun q => ?_))) (pf_c (fun _ => pf_c (fun _ => next _ (fun q => ?_))))
        · rw [hfl] at q; exact absurd q (by decide)
        · rw [hfl] at q; exact absurd q (by decide)
      | true =>
        have ha := hA l hl'
        rw [h8 l hl' hfl, MK8_i hM ha, h6, slot_e ha hiw, cl_nat (show 8 * A l + iw ≤ 1000 by omega)]
        cases hh : h (A l) with
        | false => exact pf_t (pf_c (fun _ => next _ (fun _ => by rw [hh]; rfl)))
        | true =>
          refine pf_f (pf_c (fun _ => pf_c (fun _ => next _ (fun _ => ?_))))
          rw [hh]
          exact ((hC.2 (A l) ha).1 iw hiw).symm
theorem zxc_m (hw : 4294967296 < w) (hn : n ≤ 160) (ha : ker a) (hc : crw c) (hb : b = a + 4 + j ∧ j < 80) (hi1 : i1 ≤ 160) (hen : e0 ≤ n) (hes : xsgn (s e0) = false) {iv iw : Nat} (hiv : iv < 8) (hiw : iw < 8) (hM : MK8 f M) : ∀ (F l : Nat) (v : pd_V), l ≤ 8 → v b 1 = Int32.ofNat p → v b 5 = Int32.ofNat iv → v b 6 = Int32.ofNat iw → ZW s n a b (p + 3) e0 i1 v → CRS c inp (zup f (fun x D => (zdc s n inp x p (p + 3) D).2) DD l) v → (∀ x, x < l → f x = true → v (c + 8) x = (zdc s n inp x p (p + 3) (DD x)).1 &&& 7) → Pf (d_Cr_exchange_3 w F c a b M (Int32.ofNat l) v) (CRS c inp (zexc s n inp p iv iw f DD)) := by
  have pa : a = 3 ∨ a = 88 := ha
  have pc : c = 174 ∨ c = 187 := hc
  intro F
  induction F with
  | zero => intro l v _ _ _ _ _ _ _; rw [d_Cr_exchange_3]; exact pf_none
  | succ F ih =>
    intro l v hl hb1 h5 h6 hW hC h8
    rw [d_Cr_exchange_3, decide_eq_decide.mpr (lane8 hl)]
    refine pf_d (fun z => ?_) (fun z => ?_)
    · have e : l = 8 := by omega
      subst e
      have hM2 : MK8 (zgo f (zup f (fun x D => (zdc s n inp x p (p + 3) D).2) DD 8)) (M &&& ((v c 10) ^^^ (-1 : Int32))) := MK8_g hM (fun x hx => (hC.2 x hx).2.2.2.2.2)
      have fz : ∀ x, zgo f (zup f (fun x D => (zdc s n inp x p (p + 3) D).2) DD 8) x = true → f x = true := fun x hx => (and_c hx).1
      exact zex_58 (A := fun x => ((zdc s n inp x p (p + 3) (DD x)).1 &&& 7).toNatClampNeg) hc (by omega) hiv hiw (fun x hx => by
        obtain ⟨k, k1, k2⟩ := and7_b (zdc s n inp x p (p + 3) (DD x)).1
        show ((zdc s n inp x p (p + 3) (DD x)).1 &&& 7).toNatClampNeg < 8
        rw [k2, cl_nat (by omega)]
        exact k1) w 0 v (by omega) h5 h6 hM2 hC (fun x hx hh => by
        obtain ⟨k, k1, k2⟩ := and7_b (zdc s n inp x p (p + 3) (DD x)).1
        rw [h8 x hx (fz x hh)]
        show _ = Int32.ofNat ((zdc s n inp x p (p + 3) (DD x)).1 &&& 7).toNatClampNeg
        rw [k2, cl_nat (by omega)]) (fun x hx => absurd hx (Nat.not_lt_zero _))
    · have hl' : l < 8 := by omega
      rw [MK8_i hM hl', ofN1 l]
      cases hfl : f l with
      | false =>
        refine pf_t (ih (l + 1) v (by omega) hb1 h5 h6 hW (CRS_0 hC hfl) (fun x hx hh => ?_))
        by_cases e : x = l
        · rw [e, hfl] at hh; exact absurd hh (by decide)
        · exact h8 x (by omega) hh
      | true =>
        refine pf_f ?_
        have hD := hC.2 l hl'
        rw [zup_l] at hD
        refine pf_bind (pf_and (pf_sf (t_Cr_decide (l3 := Int32.ofNat l) (v := v) hw hc ha (show stp b by unfold stp; omega))) (zcd_t hn hl' ha hc hb hi1 hb1 hW hen hes hC.1 hD)) (fun q4 h4 => ?_)
        obtain ⟨⟨hF, -⟩, hv, hA⟩ := h4
        have fr : ∀ d, d < 172 → q4.2 d = v d := fun d hd => hF d (by omega)
        rw [fmod8]
        refine pf_sb (pf_c (fun _ => ?_))
        rw [cl_nat (by omega), hv]
        refine ih (l + 1) _ (by omega) (by rw [pd_w_ne (by omega), fr b (by omega)]; exact hb1) (by rw [pd_w_ne (by omega), fr b (by omega)]; exact h5) (by rw [pd_w_ne (by omega), fr b (by omega)]; exact h6) (ZW_q hW (by rw [pd_wa (by omega), fr b (by omega)]) (by rw [pd_wa (by omega), fr _ (by omega)]) (by rw [pd_wa (by omega), fr _ (by omega)])) (CRS_o (CRS_1 hl' hC hfl hA) (Or.inl rfl)) (fun x hx hh => ?_)
        by_cases e : x = l
        · rw [e, pd_w_self]
        · rw [pd_w_nk e, hA.2.2 (c + 8) (Or.inr (Or.inl rfl))]
          exact h8 x (by omega) hh
end ZEX
