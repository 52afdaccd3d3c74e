/-! from statement to statement -/
def zfin (s : Nat → Int32) (n : Nat) : Nat → xCS → xCS
  | 0, X => X
  | d + 1, X => bif zsp s n X then X else zfin s n d (zpo s X)
/-- where the lanes stand after so many statements, how many they were, and how many lanes did them -/
def zT (s : Nat → Int32) (n : Nat) (inp : Nat → Int32) (X0 : xCS) : Nat → xCS × Int32 × Int32
  | 0 => (zfin s n 82 X0, 0, 0)
  | i + 1 => bif Nat.ble n (zT s n inp X0 i).1.1 then zT s n inp X0 i else (zfin s n 82 (zsu s n inp (zT s n inp X0 i).1), (zT s n inp X0 i).2.1 + 1, (zT s n inp X0 i).2.2 + zpc (zT s n inp X0 i).1.2.2.1)
/-- on the way through the text -/
def zVL (s : Nat → Int32) (N j : Nat) (X : xCS) : Prop := xit s j (0, []) = some (X.1, X.2.1) ∧ j ≤ N
section ZGO
variable {s : Nat → Int32} {n m w p q j e c o h r N i1 a b : Nat} {k k0 : xK} {X Y X0 : xCS} {inp : Nat → Int32} {v u t : pd_V} {x y : Int32} {DD : Nat → xLD}
theorem ble_t {x y : Nat} (h : x ≤ y) : Nat.ble x y = true := Nat.ble_eq.mpr h
theorem ble_f {x y : Nat} (h : ¬ x ≤ y) : Nat.ble x y = false := by
  cases z : Nat.ble x y
  · rfl
  · exact absurd (Nat.le_of_ble_eq_true z) h
theorem zpo_p (hn : n ≤ 160) (h0 : ∀ j, n ≤ j → s j = 0) (hx : xit s N (0, []) = some (n, [])) (hV : zVL s N j X) (hz : zsp s n X = false) : ∃ j', zVL s N j' (zpo s X) ∧ (j < j' ∨ zsp s n (zpo s X) = true) := by
  obtain ⟨p, k, f, B, W, DD⟩ := X
  obtain ⟨t1, hjN⟩ := hV
  have t1 : xit s j (0, []) = some (p, k) := t1
  have hz : (Nat.ble n p || (!(decide (s p = 125)) && !(znone f))) = false := hz
  have hpn : p < n := by
    rcases Nat.lt_or_ge p n with c | c
    · exact c
    · have := (or_f hz).1
      rw [ble_t c] at this
      exact absurd this (by decide)
  have hj : j < N := (xit_up1 h0 hx t1).2.mpr hpn
  obtain ⟨p', k', ns⟩ : ∃ p' k', xns s p k = (true, p', k') := by
    have h1 := xit_sp t1 hx (by omega)
    rw [show N - j = (N - j - 1) + 1 by omega] at h1
    obtain ⟨p1, k1, ns, -⟩ := xit_rr h1
    exact ⟨p1, k1, ns⟩
  have hx1 : xit s (j + 1) (0, []) = some (p', k') := xit_s t1 ns
  rcases xns_c ns with ⟨h125, h, m, k0, hk, h4⟩ | ⟨hs, r, g1, g2, g3, g4, g5⟩ | ⟨e, g1, g2, g3, g4, g5, g6⟩
  · subst hk
    have zpc' : zpo s (p, (h, m) :: k0, f, B, W, DD) = (bif Nat.beq m 1 && decide (s (p + 1) = 123) then (p + 2, (h, 2) :: k0, zgo (W k0.length) DD, B, W, DD) else bif Nat.beq m 0 && !(znone f) then (h, k0, f, B, W, DD) else (p + 1, k0, zgo (B k0.length) DD, zlv B k0.length (fun _ => false), W, DD)) := by
      unfold zpo
      show (bif decide (s p = 125) then _ else _) = _
      rw [decide_eq_true h125]
      rfl
    rcases h4 with ⟨m1, m2, m3, m4⟩ | ⟨m1, m3, m4⟩
    · rw [zpc', m1, m2]
      subst m3 m4
      exact ⟨j + 1, ⟨hx1, by omega⟩, Or.inl (by omega)⟩
    · have e3 : (Nat.beq m 1 && decide (s (p + 1) = 123)) = false := by
        by_cases c1 : m = 1
        · rw [decide_eq_false (fun q => m1 ⟨c1, q⟩), Bool.and_false]
        · rw [beq_f c1, Bool.false_and]
      rw [m3, m4] at hx1
      rw [zpc', e3]
      cases hc : (Nat.beq m 0 && !(znone f)) with
      | false => exact ⟨j + 1, ⟨hx1, by omega⟩, Or.inl (by omega)⟩
      | true =>
        obtain ⟨R, hRx⟩ := (xR_SI ⟨j, t1⟩ : xSI s ((h, m) :: k0)).1
        have hRj := hd_lt hRx t1
        refine ⟨R, ⟨hRx, by omega⟩, Or.inr ?_⟩
        have hsh := hd_s t1
        show (Nat.ble n h || (!(decide (s h = 125)) && !(znone f))) = true
        have n125 : s h ≠ 125 := by rcases hsh with ⟨-, z⟩ | ⟨-, z⟩ <;> (rw [z]; decide)
        rw [decide_eq_false n125, (and_c hc).2]
        cases Nat.ble n h <;> rfl
  · have n125 : s p ≠ 125 := by rcases hs with z | z <;> (rw [z]; decide)
    have c2 : (decide (s p = 63) || decide (s p = 42)) = true := by rcases hs with h | h <;> (rw [h]; decide)
    have hzp : zpo s (p, k, f, B, W, DD) = (zbe s p, k, f, B, W, DD) := by
      unfold zpo
      show (bif decide (s p = 125) then _ else bif decide (s p = 63) || decide (s p = 42) then _ else _) = _
      rw [decide_eq_false n125, c2]
      rfl
    obtain ⟨c, m, c1, c2', c3, ⟨e, c4⟩, c5, c6, -⟩ := zbe_t hn h0 ⟨N, hx⟩ ⟨j, t1⟩ hs g1 g2 g3
    have hje := hd_lt t1 c4
    have heN := (xit_up1 h0 hx c4).2.mpr c2'
    rw [hzp]
    refine ⟨e + 1, ⟨?_, by omega⟩, Or.inl (by omega)⟩
    show xit s (e + 1) (0, []) = some (zbe s p, k)
    rw [xit_s c4 (xns_cp c3 c5), c6]
  · have hh := XS_h g6
    have hzp : zpo s (p, k, f, B, W, DD) = (p', k, f, B, W, DD) := by
      have h1 := ns
      rw [xns_s (fun z => hh.1 z.1) hh.2.1 hh.2.2] at h1
      have hp' : (xst s p).2 = p' := congrArg (fun t : Bool × Nat × xK => t.2.1) h1
      unfold zpo
      show (bif decide (s p = 125) then _ else bif decide (s p = 63) || decide (s p = 42) then _ else ((xst s p).2, k, f, B, W, DD)) = _
      rw [decide_eq_false hh.1, decide_eq_false hh.2.1, decide_eq_false hh.2.2, hp']
      rfl
    rw [hzp]
    exact ⟨j + 1, ⟨by rw [hx1, g2], by omega⟩, Or.inl (by omega)⟩
/-- the search ends -/
theorem zNX (hn : n ≤ 160) (h0 : ∀ j, n ≤ j → s j = 0) (hx : xit s N (0, []) = some (n, [])) : ∀ (d j : Nat) (X : xCS), zVL s N j X → N - j ≤ d → ∃ r j', r ≤ d + 1 ∧ (∀ t, t < r → zsp s n (zwk s t X) = false) ∧ zsp s n (zwk s r X) = true ∧ zVL s N j' (zwk s r X) := by
  intro d
  induction d with
  | zero =>
    intro j X hV hd
    have hjN : j = N := by have := hV.2; omega
    refine ⟨0, j, by omega, fun t ht => absurd ht (Nat.not_lt_zero _), ?_, hV⟩
    have h1 := hV.1
    rw [hjN, hx] at h1
    have e : n = X.1 := congrArg Prod.fst (Option.some.inj h1)
    show (Nat.ble n X.1 || _) = true
    rw [ble_t (by omega)]
    rfl
  | succ d ih =>
    intro j X hV hd
    cases hz : zsp s n X with
    | true => exact ⟨0, j, by omega, fun t ht => absurd ht (Nat.not_lt_zero _), hz, hV⟩
    | false =>
      obtain ⟨j', hV', hc⟩ := zpo_p hn h0 hx hV hz
      have shift : ∀ r, (∀ t, t < r → zsp s n (zwk s t (zpo s X)) = false) → ∀ t, t < r + 1 → zsp s n (zwk s t X) = false := by
        intro r hr t ht
        cases t with
        | zero => exact hz
        | succ t => exact hr t (by omega)
      rcases hc with hc | hc
      · obtain ⟨r, j2, r1, r2, r3, r4⟩ := ih j' (zpo s X) hV' (by omega)
        exact ⟨r + 1, j2, by omega, shift r r2, r3, r4⟩
      · exact ⟨1, j', by omega, shift 0 (fun t ht => absurd ht (Nat.not_lt_zero _)), hc, hV'⟩
theorem zfin_w : ∀ (r d : Nat) (X : xCS), r ≤ d → (∀ t, t < r → zsp s n (zwk s t X) = false) → zsp s n (zwk s r X) = true → zfin s n d X = zwk s r X := by
  intro r
  induction r with
  | zero =>
    intro d X _ _ h
    cases d with
    | zero => rfl
    | succ d =>
      have h' : zsp s n X = true := h
      show (bif zsp s n X then X else zfin s n d (zpo s X)) = X
      rw [h']
      rfl
  | succ r ih =>
    intro d X hd h1 h2
    obtain ⟨d, rfl⟩ : ∃ g, d = g + 1 := ⟨d - 1, by omega⟩
    have h0' : zsp s n X = false := h1 0 (by omega)
    show (bif zsp s n X then X else zfin s n d (zpo s X)) = _
    rw [h0']
    exact ih d (zpo s X) (by omega) (fun t ht => h1 (t + 1) (by omega)) h2
/-! the class moves, does, and goes on -/
def MVR (s : Nat → Int32) (n : Nat) (inp : Nat → Int32) (Y : xCS) (v q : pd_V) : Prop := (∀ d, d < 173 → q d = v d) ∧ (q 173 1 = v 173 1 ∧ q 173 4 = v 173 4 ∧ q 173 5 = v 173 5) ∧ ((n ≤ Y.1 ∧ q 173 2 = 1 ∧ q 173 3 = 0 ∧ CRS 174 inp Y.2.2.2.2.2 q) ∨ (Y.1 < n ∧ q 173 2 = v 173 2 ∧ ∃ j, TSt s inp j Y q))
theorem iss_c (hn : n ≤ 160) (hj : j < N) (hK : KNL s n N i1 a v) (hx : xit s j (0, []) = some (p, k)) (ns : ∃ p' k', xns s p k = (true, p', k')) : d_St_isIssued (a + 4 + j) v = (bif decide (s p = 125) then (0 : Int32) else 1) := by
  obtain ⟨p0, kk, hz1, hzz⟩ := hK.2.1 j hj
  have e0 := Option.some.inj (hz1.symm.trans hx)
  have e1 : p0 = p := congrArg Prod.fst e0
  have e2 : kk = k := congrArg Prod.snd e0
  subst e1 e2
  obtain ⟨p', k', ns⟩ := ns
  unfold d_St_isIssued
  rcases hzz with ⟨h7, z0, z1, z2, z3⟩ | ⟨h125, h, m, k0, hk, b1, b2, b0⟩
  · have n125 : s p0 ≠ 125 := by
      intro c
      refine h7 ⟨c, ?_⟩
      rcases xns_c ns with ⟨-, a', m', k1, e, -⟩ | ⟨t | t, -⟩ | ⟨e, -, -, -, -, -, t⟩
      · rw [e]; exact fun z => nomatch z
      · rw [t] at c; exact absurd c (by decide)
      · rw [t] at c; exact absurd c (by decide)
      · exact absurd c (XS_h t).1
    rw [decide_eq_false n125, z0]
    rcases z3 with ⟨g, -⟩ | g | ⟨g, -⟩ | ⟨g, -⟩ | ⟨g, -⟩ | ⟨g | g, -⟩
    · rw [g]; decide
    · rw [g]; decide
    · rw [g]; decide
    · rw [g]; decide
    · rw [kF_v g]; decide
    · rw [g]; decide
    · rw [g]; decide
  · rw [decide_eq_true h125, b0]
    cases (Nat.beq m 1 && decide (s (p0 + 1) = 123)) with
    | true => rfl
    | false =>
      cases Nat.beq m 0 <;> rfl
theorem zmo_m (hn : n ≤ 160) (h0 : ∀ j, n ≤ j → s j = 0) (ha : ker a) (hN : N ≤ 80) (hx : xit s N (0, []) = some (n, [])) : ∀ (r i j : Nat) (X : xCS) (v : pd_V) (F : Nat), KNL s n N i1 a v → TSt s inp j X v → (∀ t, t < r → zsp s n (zwk s t X) = false) → zsp s n (zwk s r X) = true → i + r ≤ 81 → Pf (d_To_moveToNext_2 w F a (Int32.ofNat i) v) (MVR s n inp (zwk s r X) v) := by
  have pa : a = 3 ∨ a = 88 := ha
  intro r
  induction r with
  | zero =>
    intro i j X v F hK hT _ hz hi
    have hz : zsp s n X = true := hz
    cases F with
    | zero => rw [d_To_moveToNext_2]; exact pf_none
    | succ F =>
      obtain ⟨t1, t2, t3, t4, t5, t6⟩ := id hT
      have up := xit_up1 h0 hx t1
      rw [d_To_moveToNext_2, show (81 : Int32) = Int32.ofNat 81 from rfl, lt_nat (by omega) (by omega), decide_eq_false (show ¬ 81 < i by omega), t2, hK.1, lt_nat (by omega) (by omega)]
      refine pf_f ?_
      by_cases hj : j < N
      · have hp := up.2.mp hj
        have hz' : (Nat.ble n X.1 || (!(decide (s X.1 = 125)) && !(znone X.2.2.1))) = true := hz
        rw [ble_f (by omega), Bool.false_or] at hz'
        obtain ⟨c1, c2⟩ := and_c hz'
        have n125 : decide (s X.1 = 125) = false := by
          cases z : decide (s X.1 = 125)
          · rfl
          · rw [z] at c1; exact absurd c1 (by decide)
        have nz : znone X.2.2.1 = false := by
          cases z : znone X.2.2.1
          · rfl
          · rw [z] at c2; exact absurd c2 (by decide)
        rw [decide_eq_true hj, zsa (show j < 80 by omega)]
        refine pf_t (pf_sb ?_)
        have ns : ∃ p' k', xns s X.1 X.2.1 = (true, p', k') := by
          have h1 := xit_sp t1 hx (by omega)
          rw [show N - j = (N - j - 1) + 1 by omega] at h1
          obtain ⟨p1, k1, ns, -⟩ := xit_rr h1
          exact ⟨p1, k1, ns⟩
        rw [iss_c hn hj hK t1 ns, n125]
        refine pf_d (fun z => absurd (show (1 : Int32) = 0 from z) (by decide)) (fun _ => ?_)
        rw [MK8_z t3, nz]
        exact pf_f (pf_some ⟨fun _ _ => rfl, ⟨rfl, rfl, rfl⟩, Or.inr ⟨hp, rfl, j, hT⟩⟩)
      · have hp : n ≤ X.1 := by
          rcases Nat.lt_or_ge X.1 n with z | z
          · exact absurd (up.2.mpr z) hj
          · exact z
        rw [decide_eq_false hj]
        refine pf_f (pf_some ⟨fun d hd => by rw [pd_wa (by omega), pd_wa (by omega)], ⟨by rw [pd_w_nk (by decide), pd_w_nk (by decide)], by rw [pd_w_nk (by decide), pd_w_nk (by decide)], by rw [pd_w_nk (by decide), pd_w_nk (by decide)]⟩, Or.inl ⟨hp, by rw [pd_w_nk (by decide), pd_w_self], pd_w_self, CRS_3 (CRS_3 t6 173 (Or.inl rfl)) 173 (Or.inl rfl)⟩⟩)
  | succ r ih =>
    intro i j X v F hK hT h1 hz hi
    have hzX : zsp s n X = false := h1 0 (by omega)
    cases F with
    | zero => rw [d_To_moveToNext_2]; exact pf_none
    | succ F =>
      obtain ⟨t1, t2, t3, t4, t5, t6⟩ := id hT
      have up := xit_up1 h0 hx t1
      have hz' : (Nat.ble n X.1 || (!(decide (s X.1 = 125)) && !(znone X.2.2.1))) = false := hzX
      have hp : X.1 < n := by
        rcases Nat.lt_or_ge X.1 n with c | c
        · exact c
        · have := (or_f hz').1
          rw [ble_t c] at this
          exact absurd this (by decide)
      have hj := up.2.mpr hp
      obtain ⟨j', u, e1, e2, e3, e4, -⟩ := zpo_t hn h0 ha hN hx hK hj hT hzX
      have ns : ∃ p' k', xns s X.1 X.2.1 = (true, p', k') := by
        have h1 := xit_sp t1 hx (by omega)
        rw [show N - j = (N - j - 1) + 1 by omega] at h1
        obtain ⟨p1, k1, ns, -⟩ := xit_rr h1
        exact ⟨p1, k1, ns⟩
      have hu : ∀ d, d < 173 → pd_w u 173 6 (Int32.ofNat j') d = v d := fun d hd => by rw [pd_wa (by omega), e4.1 d (by omega) (by omega)]
      have go : Pf ((d_To_passOver (a + 4 + j) v).bind fun q6 => d_To_moveToNext_2 w F a (Int32.ofNat (i + 1)) (pd_w q6.2 173 6 q6.1)) (MVR s n inp (zwk s (r + 1) X) v) := by
        rw [e1]
        refine pf_sb ?_
        refine pf_mono (ih (i + 1) j' (zpo s X) _ F (KNL_q ha hN hK (fun d hd => hu d (by omega))) e2 (fun t ht => h1 (t + 1) (by omega)) hz (by omega)) (fun q hq => ?_)
        obtain ⟨q1, ⟨q2, q3, q4⟩, q5⟩ := hq
        refine ⟨fun d hd => (q1 d hd).trans (hu d hd), ⟨by rw [q2, pd_w_nk (by decide)]; exact e4.2 1 (by decide) (by decide), by rw [q3, pd_w_nk (by decide)]; exact e4.2 4 (by decide) (by decide), by rw [q4, pd_w_nk (by decide)]; exact e4.2 5 (by decide) (by decide)⟩, ?_⟩
        rcases q5 with q5 | ⟨y1, y2, y3⟩
        · exact Or.inl q5
        · exact Or.inr ⟨y1, by rw [y2, pd_w_nk (by decide)]; exact e4.2 2 (by decide) (by decide), y3⟩
      rw [d_To_moveToNext_2, show (81 : Int32) = Int32.ofNat 81 from rfl, lt_nat (by omega) (by omega), decide_eq_false (show ¬ 81 < i by omega), t2, hK.1, lt_nat (by omega) (by omega), decide_eq_true hj, zsa (show j < 80 by omega), ofN1 i]
      refine pf_f (pf_t (pf_sb ?_))
      rw [iss_c hn hj hK t1 ns]
      cases h125 : decide (s X.1 = 125) with
      | true => exact pf_d (fun _ => go) (fun z => absurd rfl z)
      | false =>
        have nz : znone X.2.2.1 = true := by
          have := (or_f hz').2
          rw [h125] at this
          cases z : znone X.2.2.1
          · rw [z] at this; exact absurd this (by decide)
          · rfl
        refine pf_d (fun z => absurd (show (1 : Int32) = 0 from z) (by decide)) (fun _ => ?_)
        rw [MK8_z t3, nz]
        exact pf_t go
theorem zmo_t (hn : n ≤ 160) (h0 : ∀ j, n ≤ j → s j = 0) (ha : ker a) (hN : N ≤ 80) (hx : xit s N (0, []) = some (n, [])) (hK : KNL s n N i1 a v) (hT : TSt s inp j X v) : Pf (d_To_moveToNext w a v) (MVR s n inp (zfin s n 82 X) v) ∧ ∃ j', zVL s N j' (zfin s n 82 X) ∧ zsp s n (zfin s n 82 X) = true := by
  have up := xit_up1 h0 hx hT.1
  obtain ⟨r, j', r1, r2, r3, r4⟩ := zNX hn h0 hx N j X ⟨hT.1, up.1⟩ (by omega)
  have e := zfin_w r 82 X (by omega) r2 r3
  rw [e]
  refine ⟨?_, j', r4, r3⟩
  unfold d_To_moveToNext
  exact zmo_m hn h0 ha hN hx r 0 j X v w hK hT r2 r3 (by omega)
end ZGO
