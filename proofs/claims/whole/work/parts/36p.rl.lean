/-! the class reads a text -/
section ZRL
variable {s : Nat → Int32} {n m w a b i0 i1 i2 p p' q e j nb R h : Nat} {v u t : pd_V} {x y y1 y2 y3 : Int32} {k k' k0 : xK}
theorem zce (hn : n ≤ 160) (h0 : ∀ j, n ≤ j → s j = 0) (ha : ker a) (hj : j < 80) (hL : ZL s n a j p ((h, m) :: k0) v) (hp : s p = 125) (hm : m = 1) (h1 : s (p + 1) = 123) (hR : R < j) (hRx : xit s R (0, []) = some (h, k0)) (hRo : v 87 k0.length = Int32.ofNat R) (hR0 : v (a + 4 + R) 0 = 5) : Sf ((d_Ke_addStep a (7 : Int32) (Int32.ofNat p) (Int32.ofNat k0.length) (pd_w (pd_w v 1 2 (Int32.ofNat p + (1 : Int32))) 1 2 (Int32.ofNat (p + 1) + (1 : Int32)))).bind fun q30 => some (pd_w q30.2 (a + 4 + R) 4 (Int32.ofNat j))) (fun t => ZL s n a (j + 1) (p + 2) ((h, 2) :: k0) t) := by
  have pa : a = 3 ∨ a = 88 := ha
  have pn : p + 2 ≤ n := by have := lt_n h0 h1 (by decide); omega
  have l4 := hL.1.2.2.2
  have l6 := hL.2.2.1
  have l7 := hL.2.2.2.1
  have l8 := hL.2.2.2.2.1
  have l12 := hL.2.2.2.2.2.2.2
  have l8' : 2 * j + (k0.length + 1) ≤ p := l8
  refine sf_bind (zas_f ha (by rw [pd_w_ne (by omega), pd_w_ne (by omega)]; exact l7) hj) (fun q7 h7 => ?_)
  obtain ⟨g0, g1, g2, g3, g4, g5, g6⟩ := h7
  have q1 : ∀ f, f ≠ 2 → q7.2 1 f = v 1 f := fun f c1 => by rw [g1 1 (by omega) (by omega), pd_w_nk c1, pd_w_nk c1]
  have q12 : q7.2 1 2 = Int32.ofNat (p + 2) := by rw [g1 1 (by omega) (by omega), pd_w_self, ofN1]
  have qo : ∀ c, c ≠ 1 → c ≠ a → c ≠ a + 4 + j → q7.2 c = v c := fun c c1 c2 c3 => by rw [g1 c c2 c3, pd_wa c1, pd_wa c1]
  have qa : ∀ f, f ≠ 3 → q7.2 a f = v a f := fun f hf => by rw [g2 f hf, pd_w_ne (by omega), pd_w_ne (by omega)]
  have nx : ∀ c f, c ≠ a + 4 + R → pd_w q7.2 (a + 4 + R) 4 (Int32.ofNat j) c f = q7.2 c f := fun c f c1 => pd_w_ne c1
  have nxa : ∀ c, c ≠ a + 4 + R → pd_w q7.2 (a + 4 + R) 4 (Int32.ofNat j) c = q7.2 c := fun c c1 => pd_wa c1
  have nr : ∀ c f, f ≠ 4 → pd_w q7.2 (a + 4 + R) 4 (Int32.ofNat j) c f = q7.2 c f := by
    intro c f c4
    by_cases cc : c = a + 4 + R
    · subst cc; exact pd_w_nk c4
    · exact pd_w_ne cc
  have n4 : pd_w q7.2 (a + 4 + R) 4 (Int32.ofNat j) (a + 4 + R) 4 = Int32.ofNat j := pd_w_self
  refine sf_some ?_
  generalize pd_w q7.2 (a + 4 + R) 4 (Int32.ofNat j) = t at nx nxa nr n4
  refine ZL_g ha hL hp (xns_ce hp hm h1) pn (by omega) (by show 2 * (j + 1) + (k0.length + 1) ≤ p + 2; omega) hj (fun c c1 c2 c3 => ?_) (fun f c1 c2 => ?_) ?_ ?_ (fun f hf => ?_) ?_ (fun r f hr f3 f4 => ?_) ?_ ?_ ?_ ?_
  · rw [nxa c (by omega)]; exact qo c c1 c2 (by omega)
  · rw [nx 1 f (by omega)]; exact q1 f c1
  · rw [nx 1 2 (by omega)]; exact q12
  · rw [nx 1 5 (by omega), q1 5 (by decide)]; exact l6
  · rw [nx a f (by omega)]; exact qa f hf
  · rw [nx a 3 (by omega)]; exact g3
  · rw [nr _ f f4, qo _ (by omega) (by omega) (by omega)]
  · rw [nr _ 1 (by decide)]; exact g5
  · rw [nr _ 2 (by decide)]; exact g6
  · rw [nr _ 0 (by decide), g4, hm, h1]; rfl
  · refine ⟨⟨R, by rw [nx 87 _ (by omega), qo 87 (by omega) (by omega) (by omega)]; exact hRo, by omega, hRx, Or.inr (Or.inr ⟨rfl, by rw [nr _ 0 (by decide), qo _ (by omega) (by omega) (by omega)]; exact hR0, j, n4, by omega, by omega, p, by rw [hL.2.1, hm], hp⟩)⟩, ?_⟩
    refine ZH_f k0 l12 (by omega) (fun i _ => by rw [nx 87 i (by omega), qo 87 (by omega) (by omega) (by omega)]) (fun r h' l hr hx hl => ?_) (fun hN => ZN_e hN hL.2.1 hp hm h1 hRx (fun r hr => by rw [nr _ 3 (by decide), qo _ (by omega) (by omega) (by omega)]) (fun r hr hr2 => by rw [nx _ 4 (by omega), qo _ (by omega) (by omega) (by omega)]) n4)
    have hrR : r ≠ R := fun c => by
      rw [c, hRx] at hx
      have e2 : k0 = l := congrArg Prod.snd (Option.some.inj hx)
      rw [e2] at hl
      omega
    rw [nx _ 0 (by omega), nx _ 4 (by omega), qo _ (by omega) (by omega) (by omega)]
    exact ⟨rfl, rfl⟩
theorem zcb_t (hn : n ≤ 160) (h0 : ∀ j, n ≤ j → s j = 0) (ha : ker a) (hL : ZL s n a j p ((h, m) :: k0) v) (hp : s p = 125) : Sf (d_Re_closeBlock v) (fun t => ∃ p' k', xns s p ((h, m) :: k0) = (true, p', k') ∧ p < p' ∧ ZL s n a (j + 1) p' k' t) := by
  have pa : a = 3 ∨ a = 88 := ha
  have pn : p + 1 ≤ n := by have := lt_n h0 hp (by decide); omega
  obtain ⟨⟨l1, l2, l3, l4⟩, l5, l6, l7, l8, -, ⟨R, r1, r2, r3, r4⟩, l12⟩ := id hL
  have l2' : v 1 2 = Int32.ofNat p := l2
  have l6' : v 1 5 = Int32.ofNat (k0.length + 1) := l6
  have l8' : 2 * j + (k0.length + 1) ≤ p := l8
  have k4 : k0.length + 1 ≤ 4 := xSI_4 (xR_SI ⟨j, l5⟩)
  have hj : j < 80 := by omega
  have c1 : decide (Int32.ofNat (k0.length + 1) < (1 : Int32)) = false := (lt_nat (a := k0.length + 1) (b := 1) (by omega) (by omega)).trans (decide_eq_false (by omega))
  have c2 : decide (Int32.ofNat (k0.length + 1) ≤ (4 : Int32)) = true := (le_nat (a := k0.length + 1) (b := 4) (by omega) (by omega)).trans (decide_eq_true (by omega))
  have v0 : ∀ x, pd_w v 1 2 x (a + 4 + R) 0 = v (a + 4 + R) 0 := fun x => pd_w_ne (by omega)
  have v4 : ∀ x, pd_w v 1 2 x (a + 4 + R) 4 = v (a + 4 + R) 4 := fun x => pd_w_ne (by omega)
  have v05 : ∀ x y, pd_w (pd_w v 1 2 x) 1 5 y (a + 4 + R) 0 = v (a + 4 + R) 0 := fun x y => by rw [pd_w_ne (by omega), pd_w_ne (by omega)]
  have pop : ∀ (t : pd_V), ¬ (m = 1 ∧ s (p + 1) = 123) → ZL s n a (j + 1) (p + 1) k0 t → ∃ p' k', xns s p ((h, m) :: k0) = (true, p', k') ∧ p < p' ∧ ZL s n a (j + 1) p' k' t := fun t hm ht => ⟨p + 1, k0, xns_cp hp hm, by omega, ht⟩
  unfold d_Re_closeBlock
  rw [l6', c1, c2, dec_ofNat, cl_nat (show k0.length ≤ 1000 by omega), r1, l4, l2', l7]
  refine sf_f (sf_tt (sf_c (in_nat (by omega) (by omega)) ?_))
  rw [zsa (show R < 80 by omega)]
  refine sf_sb ?_
  rw [v0, v4, v05]
  rcases r4 with ⟨m0, r4, r5⟩ | ⟨m1, r4, r5⟩ | ⟨m2, r4, o, r5, r6, r7, r8⟩
  · rw [r4]
    refine sf_n (fun _ => ?_) (fun c => absurd c (by decide))
    refine sf_n (fun _ => ?_) (fun c => absurd c (by decide))
    have hm : ¬ (m = 1 ∧ s (p + 1) = 123) := fun c => by omega
    exact sf_mono (zct hn h0 ha hj hL hp hm r2 r3 (Or.inl ⟨r5, by omega⟩) (by rw [m0]; rfl)) (fun t ht => pop t hm ht)
  · rw [r4, r5]
    refine sf_n (fun c => absurd rfl c) (fun _ => ?_)
    refine sf_n (fun c => absurd rfl c) (fun _ => ?_)
    rw [tkc_t hn h0 (RD_X (i0 := 0) ha l1 (XF_1 ha XF_r (Or.inl rfl))) Ac_1 (by omega) (by decide)]
    refine sf_sb ?_
    cases z : decide (s (p + 1) = 123) with
    | false =>
      have hm : ¬ (m = 1 ∧ s (p + 1) = 123) := fun c => by rw [decide_eq_true c.2] at z; exact absurd z (by decide)
      dsimp only [cond_false]
      have kV : kerOf (pd_w v 1 2 (Int32.ofNat p + (1 : Int32)) 1 3) = a := by rw [pd_w_nk (by decide)]; exact l4
      rw [kV]
      refine sf_d (fun _ => ?_) (fun c => absurd rfl c)
      refine sf_n (fun c => absurd ((v05 _ _).trans r4) c) (fun _ => ?_)
      exact sf_mono (zct hn h0 ha hj hL hp hm r2 r3 (Or.inl ⟨r5, by omega⟩) (by rw [m1]; rfl)) (fun t ht => pop t hm ht)
    | true =>
      dsimp only [cond_true]
      have kV : kerOf (pd_w (pd_w v 1 2 (Int32.ofNat p + (1 : Int32))) 1 2 (Int32.ofNat (p + 1) + (1 : Int32)) 1 3) = a := by rw [pd_w_nk (by decide), pd_w_nk (by decide)]; exact l4
      refine sf_d (fun c => absurd (show (1 : Int32) = 0 from c) (by decide)) (fun _ => ?_)
      rw [kV]
      exact sf_mono (zce hn h0 ha hj hL hp m1 (of_decide_eq_true z) r2 r3 r1 r4) (fun t ht => ⟨p + 2, _, xns_ce hp m1 (of_decide_eq_true z), by omega, ht⟩)
  · rw [r4, r5]
    have o0 : decide (Int32.ofNat o = (0 : Int32)) = false := (eq_nat (a := o) (b := 0) (by omega) (by omega)).trans (decide_eq_false (by omega))
    refine sf_n (fun c => absurd rfl c) (fun _ => ?_)
    refine sf_n (fun _ => ?_) (fun c => by rw [decide_eq_true c] at o0; exact absurd o0 (by decide))
    refine sf_n (fun c => absurd rfl c) (fun _ => ?_)
    have hm : ¬ (m = 1 ∧ s (p + 1) = 123) := fun c => by omega
    exact sf_mono (zct hn h0 ha hj hL hp hm r2 r3 (Or.inr ⟨m2, o, r5, r6, r7, r8⟩) (by rw [m2]; rfl)) (fun t ht => pop t hm ht)
/-- where a text fails -/
def XFl (s : Nat → Int32) (n q : Nat) : Prop := ∃ p k k', xR s p k ∧ ¬ (p = n ∧ k = []) ∧ xns s p k = (false, q, k')
theorem xit_l (h1 : xit s j (0, []) = some (p, k)) (h2 : xns s p k = (false, q, k')) {i : Nat} (h3 : xit s i (0, []) = some (p', k0)) : i ≤ j := by
  rcases Nat.lt_or_ge j i with c | c
  · rw [show i = j + ((i - j - 1) + 1) by omega, xit_add, h1] at h3
    have h4 : xit s ((i - j - 1) + 1) (p, k) = some (p', k0) := h3
    rw [xit] at h4
    have h5 : (bif (xns s p k).1 then xit s (i - j - 1) (xns s p k).2 else none) = some (p', k0) := h4
    rw [h2] at h5
    exact nomatch (show (none : Option (Nat × xK)) = some (p', k0) from h5)
  · exact c
theorem XFl_u {q' : Nat} (h1 : XFl s n q) (h2 : XFl s n q') : q = q' := by
  obtain ⟨p1, k1, k1', ⟨i1, a1⟩, -, b1⟩ := h1
  obtain ⟨p2, k2, k2', ⟨i2, a2⟩, -, b2⟩ := h2
  have e1 := xit_l a1 b1 a2
  have e2 := xit_l a2 b2 a1
  have e : i1 = i2 := by omega
  subst e
  have e3 := Option.some.inj (a1.symm.trans a2)
  have e4 : p1 = p2 := congrArg Prod.fst e3
  have e5 : k1 = k2 := congrArg Prod.snd e3
  subst e4 e5
  exact congrArg (fun x : Bool × Nat × xK => x.2.1) (b1.symm.trans b2)
theorem XFl_n (h0 : ∀ j, n ≤ j → s j = 0) (hW : xR s n []) (h : XFl s n q) : False := by
  obtain ⟨p, k, k', hR, h1, h2⟩ := h
  rcases xR_n h0 hW hR with e | ⟨p', k2, e⟩
  · exact h1 e
  · rw [h2] at e
    exact nomatch (show false = true from congrArg Prod.fst e)
theorem xst_0 (h : s p = 0) : xst s p = (false, p) := xst_n (by rw [h]; decide) (by rw [h]; decide) (by rw [h]; decide) (by rw [h]; decide) (by rw [h]; decide)
theorem XFl_e (h0 : ∀ j, n ≤ j → s j = 0) (hR : xR s n k) (hk : k ≠ []) : XFl s n n := by
  refine ⟨n, k, k, hR, fun c => hk c.2, ?_⟩
  have z := h0 n (Nat.le_refl _)
  rw [xns_s (fun c => by rw [z] at c; exact absurd c.1 (by decide)) (by rw [z]; decide) (by rw [z]; decide), xst_0 z]
def ZQ (s : Nat → Int32) (n a : Nat) (r : Int32 × pd_V) : Prop := (r.1 = 0 ∧ ∃ q, XFl s n q ∧ Ac q r.2) ∨ (r.1 = 1 ∧ ∃ j, ZL s n a j n [] r.2)
theorem zrl_m (hw : 4294967296 < w) (hn : n ≤ 160) (h0 : ∀ j, n ≤ j → s j = 0) (ha : ker a) : ∀ (f t j p : Nat) (k : xK) (v : pd_V), n + 1 - p < f → t ≤ p → ZL s n a j p k v → Sf (d_Re_read_19 w f (Int32.ofNat t) v) (ZQ s n a) := by
  intro f
  induction f with
  | zero => intro t j p k v h; exact absurd h (Nat.not_lt_zero _)
  | succ f ih =>
    intro t j p k v hf ht hL
    obtain ⟨⟨l1, l2, l3, l4⟩, l5, l6, l7, l8, -, l12⟩ := id hL
    have l2' : v 1 2 = Int32.ofNat p := l2
    have k4 : k.length ≤ 4 := xSI_4 (xR_SI ⟨j, l5⟩)
    rw [d_Re_read_19, l1.1, l2', l6, lt_nat (by omega) (by omega), decide_eq_false (show ¬ n < t by omega)]
    refine sf_f ?_
    rw [lt_nat (by omega) (by omega), ofN1 t]
    have st : p < n → ¬ (s p = 125 ∧ k ≠ []) → Sf ((d_Re_readStatement w v).bind fun q4 => bif !(decide (q4.1 = 0)) then d_Re_read_19 w f (Int32.ofNat (t + 1)) q4.2 else some ((0 : Int32), q4.2)) (ZQ s n a) := by
      intro hp h7
      refine sf_bind (zst_t hw hn h0 ha hL hp h7) (fun r hr => ?_)
      rcases hr with ⟨e1, z, k', z1, z2⟩ | ⟨e1, p', k', z1, z2, z3⟩
      · rw [e1]
        exact sf_n (fun c => absurd rfl c) (fun _ => sf_some (Or.inl ⟨rfl, z, ⟨p, k, k', ⟨j, l5⟩, fun c => by omega, z1⟩, z2⟩))
      · rw [e1]
        refine sf_n (fun _ => ?_) (fun c => absurd c (by decide))
        exact ih (t + 1) (j + 1) p' k' r.2 (by omega) (by omega) z3
    refine sf_d (fun hp => ?_) (fun hp => ?_)
    · rw [le0 (by omega)]
      refine sf_d (fun c => ?_) (fun c => ?_)
      · have hk : k = [] := List.eq_nil_of_length_eq_zero (by omega)
        exact st hp (fun c => c.2 hk)
      · rw [nx_t hn l1 l2 (by omega)]
        refine sf_sb ?_
        have e : xsN s n p = s p := by unfold xsN; rw [decide_eq_true hp]; rfl
        rw [e]
        refine sf_n (fun c125 => st hp (fun c => c125 c.1)) (fun c125 => ?_)
        cases k with
        | nil => exact absurd (Nat.le_refl 0) c
        | cons y k0 =>
          obtain ⟨h, m⟩ := y
          refine sf_bind (zcb_t hn h0 ha hL c125) (fun r hr => ?_)
          obtain ⟨p', k', z1, z2, z3⟩ := hr
          exact ih (t + 1) (j + 1) p' k' r (by omega) (by omega) z3
    · have pn : p = n := by omega
      subst pn
      have z0 : decide (Int32.ofNat k.length = (0 : Int32)) = decide (k.length = 0) := eq_nat (b := 0) (by omega) (by omega)
      rw [z0]
      refine sf_n (fun c => sf_some (Or.inl ⟨rfl, p, XFl_e h0 ⟨j, l5⟩ (fun e => c (by rw [e]; rfl)), l2⟩)) (fun c => ?_)
      have hk : k = [] := List.eq_nil_of_length_eq_zero c
      subst hk
      exact sf_some (Or.inr ⟨rfl, j, hL⟩)
theorem zrd_t (hw : 4294967296 < w) (hn : n ≤ 160) (h0 : ∀ j, n ≤ j → s j = 0) (ha : ker a) (hD : RD n s v) (hk : kerOf (v 1 3) = a) : Sf (d_Re_read w v) (ZQ s n a) := by
  have pa : a = 3 ∨ a = 88 := ha
  unfold d_Re_read d_Ke_empty
  rw [hk]
  refine sf_sb ?_
  have o : ∀ c, c ≠ 1 → c ≠ a → pd_w (pd_w (pd_w (pd_w v 1 2 (0 : Int32)) 1 5 (0 : Int32)) a 3 (0 : Int32)) a 4 (0 : Int32) c = v c := fun c c1 c2 => by rw [pd_wa c2, pd_wa c2, pd_wa c1, pd_wa c1]
  have o1 : ∀ f, f ≠ 2 → f ≠ 5 → pd_w (pd_w (pd_w (pd_w v 1 2 (0 : Int32)) 1 5 (0 : Int32)) a 3 (0 : Int32)) a 4 (0 : Int32) 1 f = v 1 f := fun f c1 c2 => by rw [pd_w_ne (by omega), pd_w_ne (by omega), pd_w_nk c2, pd_w_nk c1]
  refine zrl_m hw hn h0 ha w 0 0 0 [] _ (by omega) (Nat.le_refl _) ⟨⟨⟨by rw [o1 1 (by decide) (by decide)]; exact hD.1, fun i hi => by rw [o 2 (by omega) (by omega)]; exact hD.2 i hi⟩, ?_, Nat.zero_le _, by rw [o1 3 (by decide) (by decide)]; exact hk⟩, rfl, ?_, ?_, Nat.le_refl _, ⟨0, pd_w_self, Nat.le_refl _, fun j' hj' => absurd hj' (Nat.not_lt_zero _)⟩, ZN_0⟩
  · show pd_w _ _ _ _ 1 2 = _
    rw [pd_w_ne (by omega), pd_w_ne (by omega), pd_w_nk (by decide), pd_w_self]
    rfl
  · rw [pd_w_ne (by omega), pd_w_ne (by omega), pd_w_self]
    rfl
  · rw [pd_w_nk (by decide), pd_w_self]
    rfl
end ZRL
