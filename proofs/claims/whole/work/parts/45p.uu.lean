/-! all that wait at an X wait at the same -/
def UNI (s : Nat → Int32) (n : Nat) (W : Int32) (Y : Nat → xAS) : Prop := ∃ U0 : xUS, zun (vbs s W U0.2.1) = false ∧ ∀ l, l < 8 → (Y l).2.2.2.2.2.2.2 = false → (Y l).1 < n → (Y l).1 = U0.1 ∧ (Y l).2.1 = U0.2.1 ∧ ∀ j, j < 8 → zbt W j = false → (Y l).2.2.1 j = U0.2.2 j
def FA (v q : pd_V) : Prop := (∀ a, (a < 198 ∨ 199 ≤ a ∧ a ≤ 203) → q a = v a) ∧ (∀ k, k ≠ 6 → k ≠ 19 → k ≠ 28 → k ≠ 27 → q 198 k = v 198 k) ∧ OTG 8 v q
section YUU
variable {s : Nat → Int32} {n m w p p' q r c N i j l h L L1 R : Nat} {W : Int32} {k k' k0 k1 k2 : xK} {inp : Nat → Int32} {D D' : xLD} {U U0 : xUS} {Y P : Nat → xAS} {v u t : pd_V} {x y M : Int32}
theorem zph_g : ∀ (r L : Nat) (Y : Nat → xAS), r ≤ 8 → (zph s n inp r L Y).1 = true → ∀ l, 8 - r ≤ l → l < 8 → ∃ L', (zph s n inp r L Y).2.2 l = (zgl s n inp l L' (Y l)).2.2 := by
  intro r
  induction r with
  | zero => intro L Y _ _ l h1 h2; omega
  | succ r ih =>
    intro L Y hr h l h1 h2
    rw [zph_s] at h ⊢
    cases hg : (zgl s n inp (7 - r) L (Y (7 - r))).1 with
    | false => rw [hg] at h; exact absurd (show false = true from h) (by decide)
    | true =>
      rw [hg] at h
      have h : (zph s n inp r (zgl s n inp (7 - r) L (Y (7 - r))).2.1 (zyu Y (7 - r) (zgl s n inp (7 - r) L (Y (7 - r))).2.2)).1 = true := h
      show ∃ L', (zph s n inp r (zgl s n inp (7 - r) L (Y (7 - r))).2.1 (zyu Y (7 - r) (zgl s n inp (7 - r) L (Y (7 - r))).2.2)).2.2 l = _
      by_cases e : l = 7 - r
      · refine ⟨L, ?_⟩
        rw [zph_n r _ _ l (by omega) (by omega), e, zyu_s]
      · obtain ⟨L', hL⟩ := ih _ _ (by omega) h l (by omega) h2
        refine ⟨L', ?_⟩
        rw [hL, zyu_n e]
theorem UNI_1 (hn : n ≤ 160) (h0 : ∀ j, n ≤ j → s j = 0) (hW : xR s n []) (hF : FXP s W) (hok : zok s L Y) (hU : UNI s n W Y) (hT : (zph s n inp 8 L Y).1 = true) : ∃ (px : Nat) (kx : xK) (E : Nat → Int32), ∀ l, l < 8 → zax n (zph s n inp 8 L Y).2.2 l = true → ((zph s n inp 8 L Y).2.2 l).1 = px ∧ ((zph s n inp 8 L Y).2.2 l).2.1 = kx ∧ zun (vbs s W kx) = false ∧ ∀ j, j < 8 → zbt W j = false → ((zph s n inp 8 L Y).2.2 l).2.2.1 j = E j := by
  obtain ⟨U0, hz, hU⟩ := hU
  have hh := zph_T (s := s) (n := n) (inp := inp) 8 L Y (by omega) hT
  have hh : ∀ l, l < 8 → zhl s n ((zph s n inp 8 L Y).2.2 l) = true := fun l hl => hh l (by omega) hl
  have ok := (zph_k (inp := inp) hn h0 hW 8 L Y (by omega) hok).1
  have gg := zph_g (s := s) (n := n) (inp := inp) 8 L Y (by omega) hT
  generalize (zph s n inp 8 L Y).2.2 = P at *
  generalize (zph s n inp 8 L Y).2.1 = L1 at *
  have one : ∀ l, l < 8 → zax n P l = true → ∃ i, (∀ i', i' < i → s (uit s n inp W U0 i').1 ≠ 88) ∧ (uit s n inp W U0 i).1 = (P l).1 ∧ (uit s n inp W U0 i).2.1 = (P l).2.1 ∧ zun (vbs s W (P l).2.1) = false ∧ (∀ j, j < 8 → zbt W j = false → (P l).2.2.1 j = (uit s n inp W U0 i).2.2 j) ∧ s (P l).1 = 88 := by
    intro l hl hf
    obtain ⟨x1, x2, x3⟩ := zax_x hh hl hf
    obtain ⟨L', eg⟩ := gg l (by omega) hl
    obtain ⟨o1, o2, -⟩ := hok l hl
    have live : (Y l).2.2.2.2.2.2.2 = false ∧ (Y l).1 < n := by
      constructor
      · cases hs : (Y l).2.2.2.2.2.2.2 with
        | false => rfl
        | true =>
          have hh2 : zhl s n (Y l) = true := by
            unfold zhl
            rw [hs]
            rfl
          rw [zgl_h hh2] at eg
          rw [eg] at x1
          have x1 : (Y l).2.2.2.2.2.2.2 = false := x1
          rw [hs] at x1
          exact absurd x1 (by decide)
      · rcases Nat.lt_or_ge (Y l).1 n with t | t
        · exact t
        · have hh2 : zhl s n (Y l) = true := by
            unfold zhl
            rw [ble_t t, Bool.true_or, Bool.or_true]
          rw [zgl_h hh2] at eg
          rw [eg] at x2
          have x2 : (Y l).1 < n := x2
          omega
    obtain ⟨u1, u2, u3⟩ := hU l hl live.1 live.2
    have hi : URI s n inp W U0 (Y l).1 (Y l).2.1 (Y l).2.2 := ⟨0, fun i' h' => absurd h' (Nat.not_lt_zero _), u3, Or.inl ⟨by rw [u2]; exact hz, u1.symm, u2.symm⟩⟩
    have h2 := URI_g (inp := inp) (l := l) hn h0 hW hF L' (Y l) o1 o2 hi (by rw [← eg]; exact x1)
    rw [← eg] at h2
    obtain ⟨i, a1, a2, a3, a4, a5⟩ := URI_x h0 hW hF (ok l hl).1 x3 h2
    exact ⟨i, a1, a2, a3, a4, a5, x3⟩
  by_cases hc : ∃ l, l < 8 ∧ zax n P l = true
  · obtain ⟨l0, hl0, hf0⟩ := hc
    obtain ⟨i0, b1, b2, b3, b4, b5, b6⟩ := one l0 hl0 hf0
    refine ⟨(P l0).1, (P l0).2.1, (uit s n inp W U0 i0).2.2, fun l hl hf => ?_⟩
    obtain ⟨i, a1, a2, a3, a4, a5, a6⟩ := one l hl hf
    have e : i = i0 := by
      rcases Nat.lt_trichotomy i i0 with t | t | t
      · exact absurd (by rw [a2]; exact a6) (b1 i t)
      · exact t
      · exact absurd (by rw [b2]; exact b6) (a1 i0 t)
    subst e
    exact ⟨a2.symm.trans b2, a3.symm.trans b3, b4, a5⟩
  · exact ⟨0, [], fun _ => 0, fun l hl hf => absurd ⟨l, hl, hf⟩ hc⟩
theorem UNI_2 (h0 : ∀ j, n ≤ j → s j = 0) (hW : xR s n []) (hF : FXP s W) (hh : ∀ l, l < 8 → zhl s n (P l) = true) (hok : zok s L P) (hu : ∃ (px : Nat) (kx : xK) (E : Nat → Int32), ∀ l, l < 8 → zax n P l = true → (P l).1 = px ∧ (P l).2.1 = kx ∧ zun (vbs s W kx) = false ∧ ∀ j, j < 8 → zbt W j = false → (P l).2.2.1 j = E j) (hne : znone (zax n P) = false) : UNI s n W (zae s n inp P) := by
  obtain ⟨px, kx, E, hu⟩ := hu
  obtain ⟨z1, z2⟩ := zlx_8 hne
  obtain ⟨u1, u2, u3, -⟩ := hu _ z2 z1
  obtain ⟨x1, x2, x3⟩ := zax_x hh z2 z1
  have hR := (hok _ z2).1
  rw [u1, u2] at hR
  rw [u1] at x2 x3
  obtain ⟨p', k', ns⟩ : ∃ p' k', xns s px kx = (true, p', k') := by
    rcases xR_n h0 hW hR with ⟨e, -⟩ | e
    · omega
    · exact e
  obtain ⟨e, hX, e1, e2⟩ := HX_t ns x3
  obtain ⟨f1, -⟩ := hF px kx p' k' hR ns
  have hvw := (f1 x3).1
  have nv : ∀ l j, zbt W j = false → (zexc s n inp px (s (px + 1) - 97).toNatClampNeg (s (px + 2) - 97).toNatClampNeg (zax n P) (fun l => (P l).2.2) l).1 j = (P l).2.2.1 j := by
    intro l j hz
    have hj : j ≠ (s (px + 1) - 97).toNatClampNeg := fun e => by rw [e, hvw] at hz; exact absurd hz (by decide)
    have d1 : ∀ l, (zup (zax n P) (fun x D => (zdc s n inp x px (px + 3) D).2) (fun l => (P l).2.2) 8 l).1 = (P l).2.2.1 := by
      intro l
      unfold zup
      cases (Nat.blt l 8 && zax n P l) with
      | false => rfl
      | true =>
        show (zdc s n inp l px (px + 3) (P l).2.2).2.1 = (P l).2.2.1
        unfold zdc
        cases xw s n (zev inp l (P l).2.2) (px + 3) <;> rfl
    unfold zexc
    generalize zup (zax n P) (fun x D => (zdc s n inp x px (px + 3) D).2) (fun l => (P l).2.2) 8 = DD1 at *
    unfold zup
    cases (Nat.blt l 8 && zgo (zax n P) DD1 l) with
    | false =>
      show (DD1 l).1 j = _
      rw [d1 l]
    | true =>
      show (bif Nat.beq j (s (px + 1) - 97).toNatClampNeg then _ else (DD1 l).1 j) = _
      rw [beq_f hj, d1 l]
      rfl
  refine ⟨((zbw s 200 (p', k')).1, (zbw s 200 (p', k')).2, E), zun_w 200 (p', k') (by show zun (vbs s W k') = false; rw [e2]; exact u3), fun l hl hst hp => ?_⟩
  unfold zae at hst hp ⊢
  rw [u1] at hst hp ⊢
  cases hf : zax n P l with
  | true =>
    rw [hf] at hst hp
    obtain ⟨v1, v2, -, v4⟩ := hu l hl hf
    rw [v1, v2, ns]
    refine ⟨rfl, rfl, fun j hj hz => ?_⟩
    show (zexc s n inp px (s (px + 1) - 97).toNatClampNeg (s (px + 2) - 97).toNatClampNeg (zax n P) (fun l => (P l).2.2) l).1 j = E j
    rw [nv l j hz]
    exact v4 j hj hz
  | false =>
    exfalso
    rw [hf] at hst hp
    have hp : (P l).1 < n := hp
    have ed : zexc s n inp px (s (px + 1) - 97).toNatClampNeg (s (px + 2) - 97).toNatClampNeg (zax n P) (fun l => (P l).2.2) l = (P l).2.2 := by
      unfold zexc
      have eg : zgo (zax n P) (zup (zax n P) (fun x D => (zdc s n inp x px (px + 3) D).2) (fun l => (P l).2.2) 8) l = false := by
        unfold zgo
        rw [hf, Bool.false_and]
      rw [zup_n eg, zup_n hf]
    have hst : (zexc s n inp px (s (px + 1) - 97).toNatClampNeg (s (px + 2) - 97).toNatClampNeg (zax n P) (fun l => (P l).2.2) l).2.2.2.2.2 = false := hst
    rw [ed] at hst
    unfold zax at hf
    rw [hst, blt_t hp] at hf
    exact absurd hf (by decide)
theorem UNI_0 : UNI s n W (zY0 m) := ⟨(0, [], fun _ => 0), rfl, fun l _ _ _ => ⟨rfl, rfl, fun _ _ _ => rfl⟩⟩
end YUU
