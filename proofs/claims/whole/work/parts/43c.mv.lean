/-! the class's way to the next statement -/
section ZMV2
variable {s : Nat → Int32} {n m w p q j e c o h r N i1 a b : Nat} {k k0 : xK} {X Y : xCS} {inp : Nat → Int32} {v u t : pd_V} {x y : Int32} {DD : Nat → xLD}
/-- what a move leaves alone -/
def SM (v q : pd_V) : Prop := (∀ d, d ≠ 173 → d ≠ 184 → q d = v d) ∧ (∀ i, i ≠ 3 → i ≠ 6 → q 173 i = v 173 i)
theorem SM_r : SM v v := ⟨fun _ _ _ => rfl, fun _ _ _ => rfl⟩
theorem SM_t (h1 : SM v u) (h2 : SM u t) : SM v t := ⟨fun d a b => (h2.1 d a b).trans (h1.1 d a b), fun i a b => (h2.2 i a b).trans (h1.2 i a b)⟩
theorem CRS_M (h : CRS 174 inp DD v) (f : SM v u) : CRS 174 inp DD u := by
  have e : ∀ d, 174 ≤ d → d < 184 → u d = v d := fun d a b => f.1 d (by omega) (by omega)
  refine ⟨fun j hj => by rw [e (174 + 1) (by omega) (by omega)]; exact h.1 j hj, fun l hl => ?_⟩
  have g := h.2 l hl
  exact ⟨fun j hj => by rw [e (174 + 2) (by omega) (by omega)]; exact g.1 j hj, fun j hj => by rw [e (174 + 3) (by omega) (by omega)]; exact g.2.1 j hj, fun j hj hc => by rw [e (174 + 4) (by omega) (by omega)]; exact g.2.2.1 j hj hc, by rw [e (174 + 5) (by omega) (by omega)]; exact g.2.2.2.1, by rw [e (174 + 6) (by omega) (by omega)]; exact g.2.2.2.2.1, by rw [e 174 (by omega) (by omega)]; exact g.2.2.2.2.2⟩
theorem zpo_t (hn : n ≤ 160) (h0 : ∀ j, n ≤ j → s j = 0) (ha : ker a) (hN : N ≤ 80) (hx : xit s N (0, []) = some (n, [])) (hK : KNL s n N i1 a v) (hj : j < N) (hT : TSt s inp j X v) (hz : zsp s n X = false) : ∃ j' u, d_To_passOver (a + 4 + j) v = some (Int32.ofNat j', u) ∧ TSt s inp j' (zpo s X) (pd_w u 173 6 (Int32.ofNat j')) ∧ j' ≤ N ∧ SM v u ∧ (j < j' ∨ zsp s n (zpo s X) = true) := by
  have pa : a = 3 ∨ a = 88 := ha
  obtain ⟨p, k, f, B, W, DD⟩ := X
  obtain ⟨t1, t2, t3, t4, t5, t6⟩ := hT
  have t1 : xit s j (0, []) = some (p, k) := t1
  have t3 : MK8 f (v 173 3) := t3
  have t4 : ∀ i, i < 4 → MK8 (B i) (v 184 i) := t4
  have t5 : ∀ i, i < k.length → MK8 (W i) (v 185 i) := t5
  have t6 : CRS 174 inp DD v := t6
  have hpn : p < n := (xit_up1 h0 hx t1).2.mp hj
  have hz : (Nat.ble n p || (!(decide (s p = 125)) && !(znone f))) = false := hz
  have hz2 := (or_f hz).2
  obtain ⟨p', k', ns⟩ : ∃ p' k', xns s p k = (true, p', k') := by
    have h1 := xit_sp t1 hx (by omega)
    rw [show N - j = (N - j - 1) + 1 by omega] at h1
    obtain ⟨p1, k1, ns, -⟩ := xit_rr h1
    exact ⟨p1, k1, ns⟩
  have hx1 : xit s (j + 1) (0, []) = some (p', k') := xit_s t1 ns
  have mv : ∀ (j' p2 : Nat) (k2 : xK) (f2 : Nat → Bool) (B2 : Nat → Nat → Bool) (u : pd_V), xit s j' (0, []) = some (p2, k2) → MK8 f2 (u 173 3) → (∀ i, i < 4 → MK8 (B2 i) (u 184 i)) → (∀ i, i < k2.length → MK8 (W i) (u 185 i)) → SM v u → TSt s inp j' (p2, k2, f2, B2, W, DD) (pd_w u 173 6 (Int32.ofNat j')) := by
    intro j' p2 k2 f2 B2 u g1 g2 g3 g4 g5
    refine ⟨g1, pd_w_self, ?_, fun i hi => ?_, fun i hi => ?_, CRS_3 (CRS_M t6 g5) 173 (Or.inl rfl)⟩
    · rw [pd_w_nk (by decide)]; exact g2
    · rw [pd_w_ne (by decide)]; exact g3 i hi
    · rw [pd_w_ne (by decide)]; exact g4 i hi
  have st174 : ∀ l, l < 8 → zbt (v 174 10) l = (DD l).2.2.2.2.2 := fun l hl => (t6.2 l hl).2.2.2.2.2
  obtain ⟨p0, kk, hz1, hzz⟩ := hK.2.1 j hj
  have e0 := Option.some.inj (hz1.symm.trans t1)
  have e1 : p0 = p := congrArg Prod.fst e0
  have e2 : kk = k := congrArg Prod.snd e0
  subst e1 e2
  rcases hzz with ⟨h7, z0, z1, z2, z3⟩ | ⟨h125, h, m, k0, hk, b1, b2, b0⟩
  · have n125 : s p0 ≠ 125 := by
      intro c
      refine h7 ⟨c, ?_⟩
      rcases xns_c ns with ⟨-, a', m', k1, e, -⟩ | ⟨t | t, -⟩ | ⟨e, -, -, -, -, -, t⟩
      · rw [e]; exact fun z => nomatch z
      · rw [t] at c; exact absurd c (by decide)
      · rw [t] at c; exact absurd c (by decide)
      · exact absurd c (XS_h t).1
    have hf : znone f = true := by
      rw [decide_eq_false n125] at hz2
      cases zz : znone f with
      | true => rfl
      | false => rw [zz] at hz2; exact absurd hz2 (by decide)
    have heads : (s p0 = 63 ∨ s p0 = 42) → ∃ e, v (a + 4 + j) 3 = Int32.ofNat e ∧ j < e ∧ e < N ∧ xit s (e + 1) (0, []) = some (zbe s p0, kk) := by
      intro hs
      obtain ⟨r, g1, g2, g3, -, -⟩ : ∃ r, xE s (p0 + 1) = (true, r) ∧ kk.length < 4 ∧ s r = 123 ∧ p' = r + 1 ∧ k' = (p0, bif decide (s p0 = 63) then 1 else 0) :: kk := by
        rcases xns_c ns with ⟨t, -⟩ | ⟨-, r, g⟩ | ⟨e, -, -, -, -, -, t⟩
        · exact absurd t n125
        · exact ⟨r, g⟩
        · have := XS_h t
          rcases hs with t2 | t2
          · exact absurd t2 this.2.1
          · exact absurd t2 this.2.2
      obtain ⟨c, m, c1, c2, c3, ⟨e, c4⟩, c5, c6, -⟩ := zbe_t hn h0 ⟨N, hx⟩ ⟨j, t1⟩ hs g1 g2 g3
      have hje := hd_lt t1 c4
      have heN := (xit_up1 h0 hx c4).2.mpr c2
      have lk := hK.2.2 j e p0 m kk c heN t1 c4 c3
      refine ⟨e, (lk.1 c5).1, hje, heN, ?_⟩
      rw [xit_s c4 (xns_cp c3 c5), c6]
    have zpoh : (s p0 = 63 ∨ s p0 = 42) → zpo s (p0, kk, f, B, W, DD) = (zbe s p0, kk, f, B, W, DD) := by
      intro hs
      have c2 : (decide (s p0 = 63) || decide (s p0 = 42)) = true := by rcases hs with h | h <;> (rw [h]; decide)
      unfold zpo
      show (bif decide (s p0 = 125) then _ else bif decide (s p0 = 63) || decide (s p0 = 42) then _ else _) = _
      rw [decide_eq_false n125, c2]
      rfl
    have zpos : s p0 ≠ 63 → s p0 ≠ 42 → zpo s (p0, kk, f, B, W, DD) = (p', kk, f, B, W, DD) ∧ k' = kk := by
      intro c63 c42
      have h1 := ns
      rw [xns_s h7 c63 c42] at h1
      refine ⟨?_, (congrArg (fun t : Bool × Nat × xK => t.2.2) h1).symm⟩
      unfold zpo
      show (bif decide (s p0 = 125) then _ else bif decide (s p0 = 63) || decide (s p0 = 42) then _ else ((xst s p0).2, kk, f, B, W, DD)) = _
      have hp' : (xst s p0).2 = p' := congrArg (fun t : Bool × Nat × xK => t.2.1) h1
      rw [decide_eq_false n125, decide_eq_false c63, decide_eq_false c42, hp']
      rfl
    have headT : ∀ K : Int32, v (a + 4 + j) 0 = K → (K = 5 ∧ s p0 = 63 ∨ K = 6 ∧ s p0 = 42) → ∃ j' u, d_To_passOver (a + 4 + j) v = some (Int32.ofNat j', u) ∧ TSt s inp j' (zpo s (p0, kk, f, B, W, DD)) (pd_w u 173 6 (Int32.ofNat j')) ∧ j' ≤ N ∧ SM v u ∧ (j < j' ∨ zsp s n (zpo s (p0, kk, f, B, W, DD)) = true) := by
      intro K hK0 hs
      have hs' : s p0 = 63 ∨ s p0 = 42 := by
        rcases hs with h | h
        · exact Or.inl h.2
        · exact Or.inr h.2
      obtain ⟨e, g1, g2, g3, g4⟩ := heads hs'
      refine ⟨e + 1, v, ?_, ?_, by omega, SM_r, Or.inl (by omega)⟩
      · unfold d_To_passOver
        rw [hK0, g1, ofN1]
        rcases hs with ⟨z, -⟩ | ⟨z, -⟩ <;> (rw [z]; rfl)
      · rw [zpoh hs']
        exact mv _ _ _ _ _ _ g4 t3 t4 t5 SM_r
    have simT : ∀ K : Int32, v (a + 4 + j) 0 = K → (K = 0 ∨ K = 1 ∨ K = 2 ∨ K = 3 ∨ K = 4) → s p0 ≠ 63 → s p0 ≠ 42 → ∃ j' u, d_To_passOver (a + 4 + j) v = some (Int32.ofNat j', u) ∧ TSt s inp j' (zpo s (p0, kk, f, B, W, DD)) (pd_w u 173 6 (Int32.ofNat j')) ∧ j' ≤ N ∧ SM v u ∧ (j < j' ∨ zsp s n (zpo s (p0, kk, f, B, W, DD)) = true) := by
      intro K hK0 hs c63 c42
      obtain ⟨y1, y2⟩ := zpos c63 c42
      refine ⟨j + 1, v, ?_, ?_, by omega, SM_r, Or.inl (by omega)⟩
      · unfold d_To_passOver
        rw [hK0, t2, ofN1]
        rcases hs with z | z | z | z | z <;> (rw [z]; rfl)
      · rw [y1]
        refine mv _ _ _ _ _ _ (by rw [hx1, y2]) t3 t4 t5 SM_r
    rcases z3 with ⟨g, -⟩ | g | ⟨g, -⟩ | ⟨g, -⟩ | ⟨g, -⟩ | ⟨g, -⟩
    · exact simT 1 (by rw [z0, g]; decide) (by decide) (by rw [g]; decide) (by rw [g]; decide)
    · exact simT 4 (by rw [z0, g]; decide) (by decide) (by rw [g]; decide) (by rw [g]; decide)
    · exact simT 2 (by rw [z0, g]; decide) (by decide) (by rw [g]; decide) (by rw [g]; decide)
    · exact simT 3 (by rw [z0, g]; decide) (by decide) (by rw [g]; decide) (by rw [g]; decide)
    · exact simT 0 (by rw [z0]; exact kF_v g) (by decide) (xvar_x g 63 (by decide)) (xvar_x g 42 (by decide))
    · rcases g with g | g
      · exact headT 5 (by rw [z0, g]; decide) (Or.inl ⟨rfl, g⟩)
      · exact headT 6 (by rw [z0, g]; decide) (Or.inr ⟨rfl, g⟩)
  · subst hk
    have k4 : k0.length + 1 ≤ 4 := xSI_4 (xR_SI ⟨j, t1⟩)
    have l3 : (v (a + 4 + j) 2) &&& (3 : Int32) = Int32.ofNat k0.length := by rw [b2]; exact zand3 (by omega)
    have in4 : pm_in (Int32.ofNat k0.length) 4 = true := in_nat (by omega) (by omega)
    have kin4 : k0.length < 4 := by omega
    have zpc' : zpo s (p0, (h, m) :: k0, f, B, W, DD) = (bif Nat.beq m 1 && decide (s (p0 + 1) = 123) then (p0 + 2, (h, 2) :: k0, zgo (W k0.length) DD, B, W, DD) else bif Nat.beq m 0 && !(znone f) then (h, k0, f, B, W, DD) else (p0 + 1, k0, zgo (B k0.length) DD, zlv B k0.length (fun _ => false), W, DD)) := by
      unfold zpo
      show (bif decide (s p0 = 125) then _ else _) = _
      rw [decide_eq_true h125]
      rfl
    have cometo : ¬ (m = 1 ∧ s (p0 + 1) = 123) → ∃ u, d_To_comeTogether (Int32.ofNat k0.length) v = some u ∧ SM v u ∧ u 173 6 = Int32.ofNat j ∧ TSt s inp (j + 1) (p0 + 1, k0, zgo (B k0.length) DD, zlv B k0.length (fun _ => false), W, DD) (pd_w u 173 6 (Int32.ofNat (j + 1))) := by
      intro hm
      have ns2 := xns_cp (h := h) (k0 := k0) h125 hm
      have hx2 : xit s (j + 1) (0, []) = some (p0 + 1, k0) := xit_s t1 ns2
      refine ⟨pd_w (pd_w v 173 3 ((v 184 k0.length) &&& ((v 174 10) ^^^ (-1 : Int32)))) 184 k0.length (0 : Int32), ?_, ⟨fun d d1 d2 => by rw [pd_wa d2, pd_wa d1], fun i i3 i6 => by rw [pd_w_ne (by decide), pd_w_nk i3]⟩, by rw [pd_w_ne (by decide), pd_w_nk (by decide)]; exact t2, ?_⟩
      · unfold d_To_comeTogether
        rw [zand3 (by omega), in4, cl_nat (by omega)]
        rfl
      · refine mv _ _ _ _ _ _ hx2 ?_ (fun i hi => ?_) (fun i hi => ?_) ⟨fun d d1 d2 => by rw [pd_wa d2, pd_wa d1], fun i i3 i6 => by rw [pd_w_ne (by decide), pd_w_nk i3]⟩
        · rw [pd_w_ne (by decide), pd_w_self]
          exact MK8_g (t4 k0.length (by omega)) st174
        · unfold zlv
          by_cases z : i = k0.length
          · rw [z, pd_w_self, Nat.beq_refl]
            exact MK8_0
          · rw [pd_w_nk z, beq_f z, pd_w_ne (by decide)]
            exact t4 i hi
        · rw [pd_w_ne (by decide), pd_w_ne (by decide)]
          exact t5 i (by show i < k0.length + 1; omega)
    by_cases hel : m = 1 ∧ s (p0 + 1) = 123
    · have ek : v (a + 4 + j) 0 = 7 := by rw [b0, hel.1, hel.2]; rfl
      have ns2 := xns_ce (h := h) (k0 := k0) h125 hel.1 hel.2
      have hx2 : xit s (j + 1) (0, []) = some (p0 + 2, (h, 2) :: k0) := xit_s t1 ns2
      refine ⟨j + 1, pd_w v 173 3 ((v 185 k0.length) &&& ((v 174 10) ^^^ (-1 : Int32))), ?_, ?_, by omega, ⟨fun d d1 d2 => by rw [pd_wa d1], fun i i3 i6 => by rw [pd_w_nk i3]⟩, Or.inl (by omega)⟩
      · unfold d_To_passOver
        rw [ek, l3, in4, cl_nat (by omega), t2, ofN1]
        rfl
      · rw [zpc', hel.1, hel.2]
        refine mv _ _ _ _ _ _ hx2 ?_ (fun i hi => ?_) (fun i hi => ?_) ⟨fun d d1 d2 => by rw [pd_wa d1], fun i i3 i6 => by rw [pd_w_nk i3]⟩
        · rw [pd_w_self]
          exact MK8_g (t5 k0.length (by show k0.length < k0.length + 1; omega)) st174
        · rw [pd_w_ne (by decide)]; exact t4 i hi
        · rw [pd_w_ne (by decide)]; exact t5 i hi
    · have e3 : (Nat.beq m 1 && decide (s (p0 + 1) = 123)) = false := by
        by_cases c1 : m = 1
        · rw [decide_eq_false (fun q => hel ⟨c1, q⟩), Bool.and_false]
        · rw [beq_f c1, Bool.false_and]
      rw [e3] at b0
      rw [zpc', e3]
      obtain ⟨u, u1, u2, u3, u4⟩ := cometo hel
      cases hm0 : Nat.beq m 0 with
      | false =>
        have ek : v (a + 4 + j) 0 = 8 := by rw [b0, hm0]; rfl
        refine ⟨j + 1, u, ?_, u4, by omega, u2, Or.inl (by omega)⟩
        unfold d_To_passOver
        rw [ek, l3, u1]
        show some (u 173 6 + (1 : Int32), u) = _
        rw [u3, ofN1]
      | true =>
        have ek : v (a + 4 + j) 0 = 9 := by rw [b0, hm0]; rfl
        cases hzn : znone f with
        | true =>
          refine ⟨j + 1, u, ?_, u4, by omega, u2, Or.inl (by omega)⟩
          unfold d_To_passOver
          rw [ek, l3, u1, MK8_z t3, hzn]
          show some (u 173 6 + (1 : Int32), u) = _
          rw [u3, ofN1]
        | false =>
          obtain ⟨R, hRx⟩ := (xR_SI ⟨j, t1⟩ : xSI s ((h, m) :: k0)).1
          have hRj := hd_lt hRx t1
          have lk := ((hK.2.2 R j h m k0 p0 hj hRx t1 h125).1 hel).2
          refine ⟨R, v, ?_, ?_, by omega, SM_r, Or.inr ?_⟩
          · unfold d_To_passOver
            rw [ek, MK8_z t3, hzn, lk]
            rfl
          · exact mv _ _ _ _ _ _ hRx t3 t4 (fun i hi => t5 i (by show i < k0.length + 1; omega)) SM_r
          · have hsh := hd_s t1
            show (Nat.ble n h || (!(decide (s h = 125)) && !(znone f))) = true
            have n125 : s h ≠ 125 := by rcases hsh with ⟨-, z⟩ | ⟨-, z⟩ <;> (rw [z]; decide)
            rw [decide_eq_false n125, hzn]
            cases Nat.ble n h <;> rfl
end ZMV2
