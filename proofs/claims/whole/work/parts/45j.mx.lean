/-! a round of the reference: its second half -/
def zcn (f : Nat → Bool) : Nat → Nat
  | 0 => 0
  | l + 1 => zcn f l + zb01 (f l)
/-- what one lane's X makes of it -/
def zd3 (s : Nat → Int32) (n : Nat) (inp : Nat → Int32) (px : Nat) (Y : Nat → xAS) : Nat → xLD := zup (zax n Y) (fun x D => (zdc s n inp x px (px + 3) D).2) (fun l => (Y l).2.2) 8
/-- behind the second half's lanes before l -/
def LX (s : Nat → Int32) (n : Nat) (inp : Nat → Int32) (px e l : Nat) (Y : Nat → xAS) (v : pd_V) (x : Nat) : Prop :=
  bif Nat.blt x l && zax n Y x then MRL (8 + x) (zd3 s n inp px Y x) v ∧ zLS s x (e + 1) (Y x).2.1 v ∧ ((zd3 s n inp px Y x).2.2.2.2.2 = false → v 214 x = (zdc s n inp x px (px + 3) (Y x).2.2).1) else LAF s n x (Y x) v
section YMX
variable {s : Nat → Int32} {n m w p p' q j e c o h r N i1 a b l z d L px : Nat} {k k' k0 : xK} {inp : Nat → Int32} {D : xLD} {v u t : pd_V} {x y M : Int32} {Y : Nat → xAS} {X : xAS} {f g : Nat → Bool}
theorem zcn_8 : zcn f 8 = znc f := by
  show 0 + zb01 (f 0) + zb01 (f 1) + zb01 (f 2) + zb01 (f 3) + zb01 (f 4) + zb01 (f 5) + zb01 (f 6) + zb01 (f 7) = znc f
  unfold znc
  omega
theorem zcn_m : ∀ (r l : Nat), zcn f l ≤ zcn f (l + r) := by
  intro r
  induction r with
  | zero => intro l; exact Nat.le_refl _
  | succ r ih =>
    intro l
    show zcn f l ≤ zcn f (l + r) + zb01 (f (l + r))
    have := ih l
    omega
theorem zcn_1 (hl : l < 8) (hf : f l = true) : zcn f l + 1 ≤ znc f := by
  have h1 := zcn_m (f := f) (8 - (l + 1)) (l + 1)
  rw [show l + 1 + (8 - (l + 1)) = 8 by omega, zcn_8] at h1
  have h2 : zcn f (l + 1) = zcn f l + zb01 (f l) := rfl
  rw [h2, hf] at h1
  exact h1
theorem LX_o (hj : j < 8) (hne : j ≠ l) (h : LX s n inp px e c Y v j) (f : FG l v u) (h14 : u 214 j = v 214 j) : LX s n inp px e c Y u j := by
  have o := f.2.2.1 j hj hne
  unfold LX at *
  cases hb : (Nat.blt j c && zax n Y j) with
  | true =>
    rw [hb] at h
    obtain ⟨h1, h2, h3⟩ := h
    exact ⟨f.2.2.2 (8 + j) _ (by omega) (by omega) h1, zLS_e h2 o.1 o.2.1 o.2.2.2, fun z => by rw [h14]; exact h3 z⟩
  | false =>
    rw [hb] at h
    exact LAF_o hj hne h f
theorem LX_b {c' : Nat} (hb : (Nat.blt j c && zax n Y j) = (Nat.blt j c' && zax n Y j)) (h : LX s n inp px e c Y v j) : LX s n inp px e c' Y v j := by
  unfold LX at *
  rw [← hb]
  exact h
theorem zst_e (h : D.2.2.2.2.2 = true) : zst D = D := by
  obtain ⟨d1, d2, d3, d4, d5, d6⟩ := D
  have h : d6 = true := h
  rw [h]
  rfl
theorem zup_n {g : Nat → xLD → xLD} {DD : Nat → xLD} (hf : f l = false) : zup f g DD c l = DD l := by
  unfold zup
  rw [hf, Bool.and_false]
  rfl
theorem zup_8 {g : Nat → xLD → xLD} {DD : Nat → xLD} (hl : l < 8) (hf : f l = true) : zup f g DD 8 l = g l (DD l) := by
  unfold zup
  rw [hf, blt_t hl]
  rfl
/-- the exchange of the reference -/
theorem yex_t (hw : 4294967296 < w) (hn : n ≤ 160) (h0 : ∀ j, n ≤ j → s j = 0) (hT : TX n s v) (hin : MIN inp v) (hpx : px + 3 ≤ n) (hv1 : xvar (s (px + 1)) = true) (hv2 : xvar (s (px + 2)) = true) (hlx : (Y (zlx (zax n Y) 8)).1 = px) (hax : ∀ l, l < 8 → zax n Y l = true → (Y l).1 = px ∧ xR s px (Y l).2.1 ∧ xns s px (Y l).2.1 = (true, e + 1, (Y l).2.1)) (hne : znone (zax n Y) = false) (hX : ∀ l, l < 8 → LX s n inp px e 8 Y v l) (hM : MK8 (zgo (zax n Y) (zd3 s n inp px Y)) M) : Pf (d_Mo_exchange w (8 : Int32) M (s (px + 1) - (97 : Int32)) (s (px + 2) - (97 : Int32)) v) (fun q => (∀ l, l < 8 → LRM s n l (zae s n inp Y l) q) ∧ FH v q ∧ q 198 28 = v 198 28) := by
  obtain ⟨iv, hiv, ev⟩ := vcaseN hv1
  obtain ⟨iw, hiw, ew⟩ := vcaseN hv2
  obtain ⟨DR', hDR⟩ : ∃ DR' : Nat → xLD, DR' = (fun l => bif zax n Y l then zd3 s n inp px Y l else zst (Y l).2.2) := ⟨_, rfl⟩
  have dr1 : ∀ l, zax n Y l = true → DR' l = zd3 s n inp px Y l := fun l h => by rw [hDR]; show (bif zax n Y l then _ else _) = _; rw [h]; rfl
  have dr0 : ∀ l, zax n Y l = false → DR' l = zst (Y l).2.2 := fun l h => by rw [hDR]; show (bif zax n Y l then _ else _) = _; rw [h]; rfl
  have hmr : MRS 8 inp DR' v := ⟨hin, fun l hl => by
    have h := hX l hl
    unfold LX at h
    rw [blt_t hl, Bool.true_and] at h
    cases hf : zax n Y l with
    | true =>
      rw [hf] at h
      rw [dr1 l hf]
      exact h.1
    | false =>
      rw [hf] at h
      rw [dr0 l hf]
      have h : LAF s n l (Y l) v := h
      rcases h with ⟨h1, h2, -⟩ | ⟨-, -, h3⟩
      · exfalso
        unfold zax at hf
        rw [h1, blt_t h2] at hf
        exact absurd hf (by decide)
      · exact h3⟩
  have hg1 : ∀ x, zgo (zax n Y) (zd3 s n inp px Y) x = true → zax n Y x = true ∧ (zd3 s n inp px Y x).2.2.2.2.2 = false := fun x h => zgo_f h
  have key := zme_t (w := w) (v := v) (o := 8) (iv := iv) (iw := iw) (M := M) (h := zgo (zax n Y) (zd3 s n inp px Y)) (DD := DR') (inp := inp) (A := fun x => ((zdc s n inp x px (px + 3) (Y x).2.2).1 &&& 7).toNatClampNeg) (Or.inr rfl) hiv hiw hM (fun x hx => by
      obtain ⟨k, hk, e⟩ := and7_b (zdc s n inp x px (px + 3) (Y x).2.2).1
      show ((zdc s n inp x px (px + 3) (Y x).2.2).1 &&& 7).toNatClampNeg < 8
      rw [e, cl_nat (by omega)]
      exact hk) (fun x hx hg => by
      obtain ⟨g1, g2⟩ := hg1 x hg
      have h := hX x hx
      unfold LX at h
      rw [blt_t hx, g1] at h
      have h3 := h.2.2 g2
      obtain ⟨k, hk, e⟩ := and7_b (zdc s n inp x px (px + 3) (Y x).2.2).1
      show v 214 x &&& 7 = Int32.ofNat ((zdc s n inp x px (px + 3) (Y x).2.2).1 &&& 7).toNatClampNeg
      rw [h3, e, cl_nat (by omega)]) hmr
  rw [ev, ew]
  refine pf_mono (pf_and key (pf_sf (ex_t (x := M) (v := v) (y := Int32.ofNat iv) (z := Int32.ofNat iw) (a := 8) hw (Or.inr rfl) (by rw [Int32.toInt_ofNat_of_lt (by omega)]; omega) (by rw [Int32.toInt_ofNat_of_lt (by omega)]; omega)))) (fun q hq => ?_)
  obtain ⟨⟨k1, k2⟩, k3, -⟩ := hq
  refine ⟨fun l hl => ?_, ⟨fun a b => k3.1 a (by omega) (by omega) (by omega) (by omega) (by omega), fun k b c _ => k3.2 k b c, k2⟩, k3.2 28 (by decide) (by decide)⟩
  have hm := k1.2 l hl
  have h := hX l hl
  unfold LX at h
  rw [blt_t hl, Bool.true_and] at h
  have ezx : zexc s n inp px iv iw (zax n Y) (fun l => (Y l).2.2) = zup (zgo (zax n Y) (zd3 s n inp px Y)) (fun x D => zsv iv (bif zgo (zax n Y) (zd3 s n inp px Y) ((zdc s n inp x px (px + 3) (Y x).2.2).1 &&& 7).toNatClampNeg then (zd3 s n inp px Y ((zdc s n inp x px (px + 3) (Y x).2.2).1 &&& 7).toNatClampNeg).1 iw else 0) D) (zd3 s n inp px Y) 8 := rfl
  have edata : zax n Y l = true → zup (zgo (zax n Y) (zd3 s n inp px Y)) (fun x D => zsv iv (bif zgo (zax n Y) (zd3 s n inp px Y) ((zdc s n inp x px (px + 3) (Y x).2.2).1 &&& 7).toNatClampNeg then (DR' ((zdc s n inp x px (px + 3) (Y x).2.2).1 &&& 7).toNatClampNeg).1 iw else 0) D) DR' 8 l = zexc s n inp px iv iw (zax n Y) (fun l => (Y l).2.2) l := by
    intro hf
    rw [ezx]
    cases hg : zgo (zax n Y) (zd3 s n inp px Y) l with
    | false =>
      rw [zup_n hg, zup_n hg, dr1 l hf]
    | true =>
      rw [zup_8 hl hg, zup_8 hl hg, dr1 l hf]
      cases hg2 : zgo (zax n Y) (zd3 s n inp px Y) ((zdc s n inp l px (px + 3) (Y l).2.2).1 &&& 7).toNatClampNeg with
      | false => rfl
      | true => rw [dr1 _ (hg1 _ hg2).1]
  unfold zae
  rw [hlx, ev, ew, cl_nat (show iv ≤ 1000 by omega), cl_nat (show iw ≤ 1000 by omega)]
  cases hf : zax n Y l with
  | true =>
    rw [hf] at h
    obtain ⟨-, h2, -⟩ := h
    obtain ⟨x1, x2, x3⟩ := hax l hl hf
    have hm' : MRL (8 + l) (zexc s n inp px iv iw (zax n Y) (fun l => (Y l).2.2) l) q := by
      rw [← edata hf]
      exact hm
    rw [x1, x3]
    show LRM s n l ((zbw s 200 (e + 1, (Y l).2.1)).1, (zbw s 200 (e + 1, (Y l).2.1)).2, zexc s n inp px iv iw (zax n Y) (fun l => (Y l).2.2) l) q
    have hz : zLS s l (e + 1) (Y l).2.1 q := zLS_e h2 (by rw [k3.1 210 (by decide) (by omega) (by decide) (by decide) (by omega)]) (by rw [k3.1 211 (by decide) (by omega) (by decide) (by decide) (by omega)]) (fun i _ => by rw [k3.1 212 (by decide) (by omega) (by decide) (by decide) (by omega)])
    cases hs : (zexc s n inp px iv iw (zax n Y) (fun l => (Y l).2.2) l).2.2.2.2.2 with
    | true => exact Or.inl ⟨Or.inl hs, by rw [zst_e hs]; exact hm'⟩
    | false => exact Or.inr ⟨hs, hm', e + 1, (Y l).2.1, hz, rfl⟩
  | false =>
    rw [hf] at h
    have h : LAF s n l (Y l) v := h
    have eg : zgo (zax n Y) (zd3 s n inp px Y) l = false := by
      unfold zgo
      rw [hf, Bool.false_and]
    have e1 : zexc s n inp px iv iw (zax n Y) (fun l => (Y l).2.2) l = (Y l).2.2 := by
      rw [ezx, zup_n eg]
      unfold zd3
      exact zup_n hf
    show LRM s n l ((Y l).1, (Y l).2.1, zexc s n inp px iv iw (zax n Y) (fun l => (Y l).2.2) l) q
    rw [e1]
    have hm2 : MRL (8 + l) (zst (Y l).2.2) q := by
      rw [zup_n eg, dr0 l hf] at hm
      exact hm
    rcases h with ⟨h1, h2, -⟩ | ⟨h1, -, -⟩
    · exfalso
      unfold zax at hf
      rw [h1, blt_t h2] at hf
      exact absurd hf (by decide)
    · exact Or.inl ⟨h1, hm2⟩
end YMX
