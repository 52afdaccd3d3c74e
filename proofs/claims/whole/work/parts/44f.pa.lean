/-! the reference parts where the text's own way does -/
section YPA
variable {s : Nat → Int32} {n m w p q j e c o h r N i1 a b l z : Nat} {k k0 : xK} {X Y Z X0 : xCS} {inp : Nat → Int32} {v u t : pd_V} {x y G M L : Int32} {DD DD' : Nat → xLD} {f g f' ag fm : Nat → Bool} {B W B' W' : Nat → Nat → Bool} {D : xLD}
theorem MK8_an (h1 : MK8 f M) (h2 : MK8 g L) : MK8 (fun x => f x && !(g x)) (M &&& (L ^^^ (-1 : Int32))) := fun j => by
  rw [zbt_and, zbt_not, h1 j, h2 j]
  by_cases c : j < 8
  · rw [decide_eq_true c, decide_eq_true (show j < 32 by omega), Bool.true_and, Bool.true_and, Bool.true_and, Bool.true_and]
  · rw [decide_eq_false c, Bool.false_and, Bool.false_and, Bool.false_and]
/-- through a block without lanes, and behind its last brace -/
theorem DW_o (hn : n ≤ 160) (h0 : ∀ j, n ≤ j → s j = 0) (hW : xR s n []) (hf : znone f = true) (hR : xR s p ((h, m) :: k0)) (hRc : xR s c ((h, m) :: k0)) (hc : s c = 125) (hm : ¬ (m = 1 ∧ s (c + 1) = 123)) : WK s n (p, (h, m) :: k0, f, B, W, DD) (c + 1, k0, zgo (B k0.length) DD, zlv B k0.length (fun _ => false), W, DD) := by
  have hcn := lt_n h0 hc (by decide)
  refine WK_t (DWK_c hn h0 hW hf hR hRc hc) ?_
  have e : zpo s (c, (h, m) :: k0, f, B, W, DD) = (c + 1, k0, zgo (B k0.length) DD, zlv B k0.length (fun _ => false), W, DD) := by
    rw [zpo_c hc, nel hm, hf]
    show (bif Nat.beq m 0 && false then _ else _) = _
    rw [Bool.and_false]
    rfl
  rw [← e]
  exact WK_1 (zsp_n hcn (Or.inl hc))
/-- through a first block without lanes, into the second -/
theorem DW_e (hn : n ≤ 160) (h0 : ∀ j, n ≤ j → s j = 0) (hW : xR s n []) (hf : znone f = true) (hR : xR s p ((h, 1) :: k0)) (hRc : xR s c ((h, 1) :: k0)) (hc : s c = 125) (h1 : s (c + 1) = 123) : WK s n (p, (h, 1) :: k0, f, B, W, DD) (c + 2, (h, 2) :: k0, zgo (W k0.length) DD, B, W, DD) := by
  have hcn := lt_n h0 hc (by decide)
  refine WK_t (DWK_c hn h0 hW hf hR hRc hc) ?_
  have e : zpo s (c, (h, 1) :: k0, f, B, W, DD) = (c + 2, (h, 2) :: k0, zgo (W k0.length) DD, B, W, DD) := by
    rw [zpo_c hc, decide_eq_true h1]
    rfl
  rw [← e]
  exact WK_1 (zsp_n hcn (Or.inl hc))
/-- a head, the end of its first block, and behind all its blocks -/
theorem yhd_t (hw : 4294967296 < w) (hn : n ≤ 160) (h0 : ∀ j, n ≤ j → s j = 0) (hW : xR s n []) (hR : xR s p k) (hs : s p = 63 ∨ s p = 42) (hE : xE s (p + 1) = (true, r)) (h4 : k.length < 4) (hr : s r = 123) : ∃ c, p < c ∧ c < n ∧ s c = 125 ∧ xR s c ((p, bif decide (s p = 63) then 1 else 0) :: k) ∧ (∀ (v : pd_V) (l : Nat), (∀ j, j < n → v l j = s j) → d_Mo_behind w l 160 (Int32.ofNat r) v = some (Int32.ofNat (c + 1))) ∧ ((¬ (s p = 63 ∧ s (c + 1) = 123) ∧ xR s (c + 1) k ∧ ∀ v, TX n s v → d_Mo_behindAll w (Int32.ofNat p) v = some (Int32.ofNat (c + 1))) ∨ (s p = 63 ∧ s (c + 1) = 123 ∧ xR s (c + 2) ((p, 2) :: k) ∧ ∃ b, c + 1 < b ∧ b < n ∧ s b = 125 ∧ xR s b ((p, 2) :: k) ∧ xR s (b + 1) k ∧ (∀ (v : pd_V) (l : Nat), (∀ j, j < n → v l j = s j) → d_Mo_behind w l 160 (Int32.ofNat (c + 1)) v = some (Int32.ofNat (b + 1))) ∧ ∀ v, TX n s v → d_Mo_behindAll w (Int32.ofNat p) v = some (Int32.ofNat (b + 1)))) := by
  obtain ⟨g1, g2, g3, g4⟩ := hd_f h0 hR hs hE h4 hr
  obtain ⟨c, c1, c2, c3, c4, c5⟩ := sk_t hw hn h0 hW hr g4
  refine ⟨c, by omega, c2, c3, c4, c5, ?_⟩
  by_cases d : s p = 63 ∧ s (c + 1) = 123
  · obtain ⟨d1, d2⟩ := d
    have d3 := lt_n h0 d2 (by decide)
    rw [decide_eq_true d1] at c4
    have c6 := xcl_e c3 rfl d2 c4
    obtain ⟨b, b1, b2, b3, b4, b5⟩ := sk_t hw hn h0 hW d2 c6
    refine Or.inr ⟨d1, d2, c6, b, b1, b2, b3, b4, xcl_n b3 (by omega) b4, b5, fun v hT => ?_⟩
    unfold d_Mo_behindAll
    rw [hu_t hw hn hT.2 g2 hr g3]
    show (d_Mo_behind w 200 160 (Int32.ofNat r) v).bind _ = _
    rw [c5 v 200 hT.2]
    show (bif pm_in (Int32.ofNat p) 160 then (bif !(decide (v 200 (Int32.ofNat p).toNatClampNeg = (63 : Int32))) then _ else (bif decide (v 198 4 ≤ Int32.ofNat (c + 1)) then _ else (bif pm_in (Int32.ofNat (c + 1)) 160 then (bif !(decide (v 200 (Int32.ofNat (c + 1)).toNatClampNeg = (123 : Int32))) then _ else _) else none))) else none) = _
    rw [in_nat (show p < 160 by omega) (by omega), cl_nat (show p ≤ 1000 by omega), hT.2 p (by omega), decide_eq_true d1, hT.1, le_nat (by omega) (by omega), decide_eq_false (show ¬ n ≤ c + 1 by omega), in_nat (show c + 1 < 160 by omega) (by omega), cl_nat (show c + 1 ≤ 1000 by omega), hT.2 (c + 1) (by omega), decide_eq_true d2, b5 v 200 hT.2]
    rfl
  · refine Or.inl ⟨d, xcl_n c3 (fun q => d ?_) c4, fun v hT => ?_⟩
    · refine ⟨?_, q.2⟩
      by_cases z : s p = 63
      · exact z
      · rw [decide_eq_false z] at q
        exact absurd q.1 (by decide)
    · unfold d_Mo_behindAll
      rw [hu_t hw hn hT.2 g2 hr g3]
      show (d_Mo_behind w 200 160 (Int32.ofNat r) v).bind _ = _
      rw [c5 v 200 hT.2]
      show (bif pm_in (Int32.ofNat p) 160 then (bif !(decide (v 200 (Int32.ofNat p).toNatClampNeg = (63 : Int32))) then some (Int32.ofNat (c + 1)) else (bif decide (v 198 4 ≤ Int32.ofNat (c + 1)) then some (Int32.ofNat (c + 1)) else (bif pm_in (Int32.ofNat (c + 1)) 160 then (bif !(decide (v 200 (Int32.ofNat (c + 1)).toNatClampNeg = (123 : Int32))) then some (Int32.ofNat (c + 1)) else _) else none))) else none) = _
      rw [in_nat (show p < 160 by omega) (by omega), cl_nat (show p ≤ 1000 by omega), hT.2 p (by omega)]
      by_cases z : s p = 63
      · have z2 : s (c + 1) ≠ 123 := fun q => d ⟨z, q⟩
        rw [decide_eq_true z, hT.1, le_nat (by omega) (by omega)]
        by_cases y : n ≤ c + 1
        · rw [decide_eq_true y]
          rfl
        · rw [decide_eq_false y, in_nat (show c + 1 < 160 by omega) (by omega), cl_nat (show c + 1 ≤ 1000 by omega), hT.2 (c + 1) (by omega), decide_eq_false z2]
          rfl
      · rw [decide_eq_false z]
        rfl
theorem zsu_h {m0 : Nat} (hs : s p = 63 ∨ s p = 42) (ns : xns s p k = (true, r + 1, (p, m0) :: k)) : zsu s n inp (p, k, f, B, W, DD) = (r + 1, (p, m0) :: k, zgo (fun x => f x && !(decide ((zdc s n inp x p (p + 1) (DD x)).1 = 0))) (zup f (fun x D => (zdc s n inp x p (p + 1) D).2) DD 8), zlv B k.length (fun x => B k.length x || f x), zlv W k.length (fun x => f x && !(f x && !(decide ((zdc s n inp x p (p + 1) (DD x)).1 = 0)))), zup f (fun x D => (zdc s n inp x p (p + 1) D).2) DD 8) := by
  have e : (decide (s p = 63) || decide (s p = 42)) = true := by
    rcases hs with h | h
    · rw [decide_eq_true h, Bool.true_or]
    · rw [decide_eq_true h, Bool.or_true]
  unfold zsu
  show (bif decide (s p = 63) || decide (s p = 42) then ((xns s p k).2.1, (xns s p k).2.2, _) else _) = _
  rw [e, ns]
  rfl
theorem zgo_l (h1 : ∀ x, x < 8 → zgo fm DD x = f x) (hm : MONO DD DD') {x : Nat} (hx : x < 8) : zgo fm DD' x = zgo f DD' x := by
  have e := h1 x hx
  unfold zgo at *
  cases hs : (DD x).2.2.2.2.2 with
  | true =>
    rw [hm x hx hs]
    cases fm x <;> cases f x <;> rfl
  | false =>
    rw [hs] at e
    have e2 : fm x = f x := by
      rw [← e]
      cases fm x <;> rfl
    rw [e2]
/-- what is left behind: no statement is issued on the way -/
def RA (s : Nat → Int32) (n : Nat) (inp : Nat → Int32) (X : xCS) (v : pd_V) (r : Int32 × pd_V) : Prop := ∃ Y : xCS, r.1 = Int32.ofNat Y.1 ∧ xR s Y.1 Y.2.1 ∧ AM s n inp Y r.2 ∧ WK s n X Y ∧ CT v r.2 ∧ OTG 0 v r.2
/-- the masks behind a head, whoever goes in -/
theorem VI_hd (hV : VI (p, k, f, B, W, DD)) (hag : ∀ x, x < 8 → ag x = true → f x = true) : VI (z, (p, m) :: k, zgo ag DD', zlv B k.length (fun x => B k.length x || f x), zlv W k.length (fun x => f x && !(ag x)), DD') := by
  obtain ⟨v1, v2, v3, v4, v5⟩ := hV
  refine VI_h v2 (fun i j hij hj x hx hb => ?_) (fun i hi x hx => v4 i (by show k.length ≤ i; omega) x hx) v5 hag
  rcases Nat.lt_or_ge j k.length with hj2 | hj2
  · exact v3 i j hij hj2 x hx hb
  · have := v4 j hj2 x hx
    rw [show B j x = false from this] at hb
    exact absurd hb (by decide)
end YPA
