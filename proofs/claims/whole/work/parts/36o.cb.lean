/-! a block is closed -/
section ZCB
variable {s : Nat → Int32} {n m w a b i0 i1 i2 p p' q e j nb R h : Nat} {v u t : pd_V} {x y y1 y2 y3 : Int32} {k k' k0 : xK}
theorem zas_f (ha : ker a) (h3 : v a 3 = Int32.ofNat j) (hj : j < 80) : Sf (d_Ke_addStep a y1 y2 y3 v) (fun r => r.1 = a + 4 + j ∧ (∀ c, c ≠ a → c ≠ a + 4 + j → r.2 c = v c) ∧ (∀ f, f ≠ 3 → r.2 a f = v a f) ∧ r.2 a 3 = Int32.ofNat (j + 1) ∧ r.2 (a + 4 + j) 0 = y1 ∧ r.2 (a + 4 + j) 1 = y2 ∧ r.2 (a + 4 + j) 2 = y3) := by
  have pa : a = 3 ∨ a = 88 := ha
  rw [zas_t ha h3 hj]
  refine sf_some ⟨rfl, fun c c1 c2 => ?_, fun f hf => ?_, ?_, ?_, ?_, ?_⟩
  · show pd_w _ _ _ _ c = _
    rw [pd_wa c2, pd_wa c2, pd_wa c2, pd_wa c2, pd_wa c1]
  · show pd_w _ _ _ _ a f = _
    rw [pd_w_ne (by omega), pd_w_ne (by omega), pd_w_ne (by omega), pd_w_ne (by omega), pd_w_nk hf]
  · show pd_w _ _ _ _ a 3 = _
    rw [pd_w_ne (by omega), pd_w_ne (by omega), pd_w_ne (by omega), pd_w_ne (by omega), pd_w_self]
  · show pd_w _ _ _ _ _ 0 = _
    rw [pd_w_nk (by decide), pd_w_nk (by decide), pd_w_nk (by decide), pd_w_self]
  · show pd_w _ _ _ _ _ 1 = _
    rw [pd_w_nk (by decide), pd_w_nk (by decide), pd_w_self]
  · show pd_w _ _ _ _ _ 2 = _
    rw [pd_w_nk (by decide), pd_w_self]
theorem zsa (hR : R < 80) : d_Ke_stepAt a (Int32.ofNat R) v = some (a + 4 + R) := by
  unfold d_Ke_stepAt
  rw [lt0 (by omega), show (80 : Int32) = Int32.ofNat 80 from rfl, le_nat (by omega) (by omega), decide_eq_false (show ¬ 80 ≤ R by omega), in_nat hR (by omega), cl_nat (by omega)]
  rfl
theorem xns_cp (hp : s p = 125) (hm : ¬ (m = 1 ∧ s (p + 1) = 123)) : xns s p ((h, m) :: k0) = (true, p + 1, k0) := by
  unfold xns
  rw [hp]
  show (bif Nat.beq m 1 && decide (s (p + 1) = 123) then _ else (true, p + 1, k0)) = _
  have e : (Nat.beq m 1 && decide (s (p + 1) = 123)) = false := by
    by_cases c1 : m = 1
    · rw [decide_eq_false (fun q => hm ⟨c1, q⟩), Bool.and_false]
    · rw [beq_f c1, Bool.false_and]
  rw [e]
  rfl
theorem xns_ce (hp : s p = 125) (hm : m = 1) (h1 : s (p + 1) = 123) : xns s p ((h, m) :: k0) = (true, p + 2, (h, 2) :: k0) := by
  unfold xns
  rw [hp, hm, h1]
  rfl
/-- the rows behind a closing brace -/
theorem ZL_g (ha : ker a) (hL : ZL s n a j p ((h, m) :: k0) v) (hp : s p = 125) (hns : xns s p ((h, m) :: k0) = (true, p', k')) (hp' : p' ≤ n) (hpp : p < p') (hlen : 2 * (j + 1) + k'.length ≤ p') (hj : j < 80) (o : ∀ c, c ≠ 1 → c ≠ a → (c < a + 4 ∨ a + 84 ≤ c) → t c = v c) (o1 : ∀ f, f ≠ 2 → f ≠ 5 → t 1 f = v 1 f) (o2 : t 1 2 = Int32.ofNat p') (o5 : t 1 5 = Int32.ofNat k'.length) (oa : ∀ f, f ≠ 3 → t a f = v a f) (o3 : t a 3 = Int32.ofNat (j + 1)) (rows : ∀ r f, r < j → f ≠ 3 → f ≠ 4 → t (a + 4 + r) f = v (a + 4 + r) f) (b1 : t (a + 4 + j) 1 = Int32.ofNat p) (b2 : t (a + 4 + j) 2 = Int32.ofNat k0.length) (b0 : t (a + 4 + j) 0 = (bif Nat.beq m 1 && decide (s (p + 1) = 123) then 7 else bif Nat.beq m 0 then 9 else 8)) (hH : ZH s (j + 1) a t k') : ZL s n a (j + 1) p' k' t := by
  have pa : a = 3 ∨ a = 88 := ha
  obtain ⟨⟨l1, l2, l3, l4⟩, l5, l6, l7, l8, ⟨i0, l9, l10, l11⟩, l12⟩ := hL
  refine ⟨⟨⟨by rw [o1 1 (by decide) (by decide)]; exact l1.1, fun i hi => by rw [o 2 (by omega) (by omega) (by omega)]; exact l1.2 i hi⟩, o2, hp', by rw [o1 3 (by decide) (by decide)]; exact l4⟩, xit_s l5 hns, o5, o3, hlen, ⟨i0, by rw [oa 4 (by decide)]; exact l9, by omega, fun j' hj' => ?_⟩, hH⟩
  by_cases c : j' = j
  · subst c
    exact ⟨p, (h, m) :: k0, l5, Or.inr ⟨hp, h, m, k0, rfl, b1, b2, b0⟩⟩
  · exact ZJ_f (l11 j' (by omega)) (Nat.le_refl _) (fun f f3 f4 => rows j' f (by omega) f3 f4) (fun t _ => by rw [o (a + 2) (by omega) (by omega) (by omega), o (a + 3) (by omega) (by omega) (by omega)]; exact ⟨rfl, rfl⟩)
theorem zct (hn : n ≤ 160) (h0 : ∀ j, n ≤ j → s j = 0) (ha : ker a) (hj : j < 80) (hL : ZL s n a j p ((h, m) :: k0) v) (hp : s p = 125) (hm : ¬ (m = 1 ∧ s (p + 1) = 123)) (hR : R < j) (hRx : xit s R (0, []) = some (h, k0)) (ho : (v (a + 4 + R) 4 = 0 ∧ m ≠ 2) ∨ (m = 2 ∧ ∃ o, v (a + 4 + R) 4 = Int32.ofNat o ∧ 0 < o ∧ o < j ∧ ∃ p', xit s o (0, []) = some (p', (h, 1) :: k0) ∧ s p' = 125)) (hy : y = (bif Nat.beq m 0 then 9 else 8)) : Sf ((d_Ke_addStep a y (Int32.ofNat p) (Int32.ofNat k0.length) (pd_w (pd_w v 1 2 (Int32.ofNat p + (1 : Int32))) 1 5 (Int32.ofNat k0.length))).bind fun q7 => bif !(decide ((pd_w (pd_w q7.2 q7.1 4 (Int32.ofNat R)) (a + 4 + R) 3 (Int32.ofNat j)) (a + 4 + R) 4 = 0)) then (d_Ke_stepAt (kerOf ((pd_w (pd_w q7.2 q7.1 4 (Int32.ofNat R)) (a + 4 + R) 3 (Int32.ofNat j)) 1 3)) ((pd_w (pd_w q7.2 q7.1 4 (Int32.ofNat R)) (a + 4 + R) 3 (Int32.ofNat j)) (a + 4 + R) 4) (pd_w (pd_w q7.2 q7.1 4 (Int32.ofNat R)) (a + 4 + R) 3 (Int32.ofNat j))).bind fun q9 => some (pd_w (pd_w (pd_w q7.2 q7.1 4 (Int32.ofNat R)) (a + 4 + R) 3 (Int32.ofNat j)) q9 3 (Int32.ofNat j)) else some (pd_w (pd_w (pd_w q7.2 q7.1 4 (Int32.ofNat R)) (a + 4 + R) 3 (Int32.ofNat j)) (a + 4 + R) 4 (Int32.ofNat j))) (fun t => ZL s n a (j + 1) (p + 1) k0 t) := by
  have pa : a = 3 ∨ a = 88 := ha
  have pn : p + 1 ≤ n := by have := lt_n h0 hp (by decide); omega
  have l4 := hL.1.2.2.2
  have l7 := hL.2.2.2.1
  have l8 := hL.2.2.2.2.1
  have l12 := hL.2.2.2.2.2.2.2
  have l8' : 2 * j + (k0.length + 1) ≤ p := l8
  obtain ⟨o, ho1, ho2, ho3⟩ : ∃ o, v (a + 4 + R) 4 = Int32.ofNat o ∧ o < j ∧ ((o = 0 ∧ m ≠ 2) ∨ (0 < o ∧ m = 2 ∧ ∃ p', xit s o (0, []) = some (p', (h, 1) :: k0) ∧ s p' = 125)) := by
    rcases ho with ⟨z1, z2⟩ | ⟨z1, o, z2, z3, z4, z5⟩
    · exact ⟨0, z1, by omega, Or.inl ⟨rfl, z2⟩⟩
    · exact ⟨o, z2, z4, Or.inr ⟨z3, z1, z5⟩⟩
  have oR : o ≠ R ∨ o = 0 := by
    rcases ho3 with ⟨z, -⟩ | ⟨-, -, p', z1, z2⟩
    · exact Or.inr z
    · refine Or.inl (fun z => ?_)
      rw [z, hRx] at z1
      have z3 : h = p' := congrArg Prod.fst (Option.some.inj z1)
      have hsh := hd_s hL.2.1
      rw [z3, z2] at hsh
      rcases hsh with ⟨-, z4⟩ | ⟨-, z4⟩ <;> exact absurd z4 (by decide)
  refine sf_bind (zas_f ha (by rw [pd_w_ne (by omega), pd_w_ne (by omega)]; exact l7) hj) (fun q7 h7 => ?_)
  obtain ⟨g0, g1, g2, g3, g4, g5, g6⟩ := h7
  rw [g0]
  have q1 : ∀ f, f ≠ 2 → f ≠ 5 → q7.2 1 f = v 1 f := fun f c1 c2 => by rw [g1 1 (by omega) (by omega), pd_w_nk c2, pd_w_nk c1]
  have q12 : q7.2 1 2 = Int32.ofNat (p + 1) := by rw [g1 1 (by omega) (by omega), pd_w_nk (by decide), pd_w_self, ofN1]
  have q15 : q7.2 1 5 = Int32.ofNat k0.length := by rw [g1 1 (by omega) (by omega), pd_w_self]
  have qo : ∀ c, c ≠ 1 → c ≠ a → c ≠ a + 4 + j → q7.2 c = v c := fun c c1 c2 c3 => by rw [g1 c c2 c3, pd_wa c1, pd_wa c1]
  have qa : ∀ f, f ≠ 3 → q7.2 a f = v a f := fun f hf => by rw [g2 f hf, pd_w_ne (by omega), pd_w_ne (by omega)]
  have eT : pd_w (pd_w q7.2 (a + 4 + j) 4 (Int32.ofNat R)) (a + 4 + R) 3 (Int32.ofNat j) (a + 4 + R) 4 = Int32.ofNat o := by rw [pd_w_nk (by decide), pd_w_ne (by omega), qo _ (by omega) (by omega) (by omega)]; exact ho1
  have kT : kerOf (pd_w (pd_w q7.2 (a + 4 + j) 4 (Int32.ofNat R)) (a + 4 + R) 3 (Int32.ofNat j) 1 3) = a := by rw [pd_w_ne (by omega), pd_w_ne (by omega), q1 3 (by decide) (by decide)]; exact l4
  have fin : ∀ X F : Nat, (X = a + 4 + R ∧ F = 4 ∧ o = 0) ∨ (X = a + 4 + o ∧ F = 3 ∧ 0 < o) → ZL s n a (j + 1) (p + 1) k0 (pd_w (pd_w (pd_w q7.2 (a + 4 + j) 4 (Int32.ofNat R)) (a + 4 + R) 3 (Int32.ofNat j)) X F (Int32.ofNat j)) := by
    intro X F hX
    have hXj : X ≠ a + 4 + j := by omega
    have hX1 : X ≠ 1 ∧ X ≠ a ∧ a + 4 ≤ X ∧ X < a + 84 := by omega
    have nx : ∀ c f, c ≠ X → c ≠ a + 4 + R → c ≠ a + 4 + j → pd_w (pd_w (pd_w q7.2 (a + 4 + j) 4 (Int32.ofNat R)) (a + 4 + R) 3 (Int32.ofNat j)) X F (Int32.ofNat j) c f = q7.2 c f := fun c f c1 c2 c3 => by rw [pd_w_ne c1, pd_w_ne c2, pd_w_ne c3]
    have nxa : ∀ c, c ≠ X → c ≠ a + 4 + R → c ≠ a + 4 + j → pd_w (pd_w (pd_w q7.2 (a + 4 + j) 4 (Int32.ofNat R)) (a + 4 + R) 3 (Int32.ofNat j)) X F (Int32.ofNat j) c = q7.2 c := fun c c1 c2 c3 => funext fun f => nx c f c1 c2 c3
    have nr : ∀ c f, f ≠ 3 → f ≠ 4 → pd_w (pd_w (pd_w q7.2 (a + 4 + j) 4 (Int32.ofNat R)) (a + 4 + R) 3 (Int32.ofNat j)) X F (Int32.ofNat j) c f = q7.2 c f := by
      intro c f c3 c4
      have e1 : pd_w (pd_w (pd_w q7.2 (a + 4 + j) 4 (Int32.ofNat R)) (a + 4 + R) 3 (Int32.ofNat j)) X F (Int32.ofNat j) c f = pd_w (pd_w q7.2 (a + 4 + j) 4 (Int32.ofNat R)) (a + 4 + R) 3 (Int32.ofNat j) c f := by
        by_cases cc : c = X
        · subst cc; exact pd_w_nk (by omega)
        · exact pd_w_ne cc
      have e2 : pd_w (pd_w q7.2 (a + 4 + j) 4 (Int32.ofNat R)) (a + 4 + R) 3 (Int32.ofNat j) c f = pd_w q7.2 (a + 4 + j) 4 (Int32.ofNat R) c f := by
        by_cases cc : c = a + 4 + R
        · subst cc; exact pd_w_nk c3
        · exact pd_w_ne cc
      have e3 : pd_w q7.2 (a + 4 + j) 4 (Int32.ofNat R) c f = q7.2 c f := by
        by_cases cc : c = a + 4 + j
        · subst cc; exact pd_w_nk c4
        · exact pd_w_ne cc
      rw [e1, e2, e3]
    have n4 : ∀ r, r < j → r ≠ R → pd_w (pd_w (pd_w q7.2 (a + 4 + j) 4 (Int32.ofNat R)) (a + 4 + R) 3 (Int32.ofNat j)) X F (Int32.ofNat j) (a + 4 + r) 4 = q7.2 (a + 4 + r) 4 := by
      intro r hr hr2
      have e1 : pd_w (pd_w (pd_w q7.2 (a + 4 + j) 4 (Int32.ofNat R)) (a + 4 + R) 3 (Int32.ofNat j)) X F (Int32.ofNat j) (a + 4 + r) 4 = pd_w (pd_w q7.2 (a + 4 + j) 4 (Int32.ofNat R)) (a + 4 + R) 3 (Int32.ofNat j) (a + 4 + r) 4 := by
        by_cases cc : a + 4 + r = X
        · rw [← cc]; exact pd_w_nk (by omega)
        · exact pd_w_ne cc
      rw [e1, pd_w_ne (by omega), pd_w_ne (by omega)]
    have n3 : ∀ r, r < j → r ≠ R → (r = o → o = 0) → pd_w (pd_w (pd_w q7.2 (a + 4 + j) 4 (Int32.ofNat R)) (a + 4 + R) 3 (Int32.ofNat j)) X F (Int32.ofNat j) (a + 4 + r) 3 = q7.2 (a + 4 + r) 3 := by
      intro r hr hr2 hro
      have e1 : pd_w (pd_w (pd_w q7.2 (a + 4 + j) 4 (Int32.ofNat R)) (a + 4 + R) 3 (Int32.ofNat j)) X F (Int32.ofNat j) (a + 4 + r) 3 = pd_w (pd_w q7.2 (a + 4 + j) 4 (Int32.ofNat R)) (a + 4 + R) 3 (Int32.ofNat j) (a + 4 + r) 3 := by
        by_cases cc : a + 4 + r = X
        · exfalso
          omega
        · exact pd_w_ne cc
      rw [e1, pd_w_ne (by omega), pd_w_ne (by omega)]
    have tR3 : pd_w (pd_w (pd_w q7.2 (a + 4 + j) 4 (Int32.ofNat R)) (a + 4 + R) 3 (Int32.ofNat j)) X F (Int32.ofNat j) (a + 4 + R) 3 = Int32.ofNat j := by
      by_cases cc : a + 4 + R = X
      · rw [← cc, pd_w_nk (by omega), pd_w_self]
      · rw [pd_w_ne cc, pd_w_self]
    have tj4 : pd_w (pd_w (pd_w q7.2 (a + 4 + j) 4 (Int32.ofNat R)) (a + 4 + R) 3 (Int32.ofNat j)) X F (Int32.ofNat j) (a + 4 + j) 4 = Int32.ofNat R := by
      rw [pd_w_ne (by omega), pd_w_ne (by omega), pd_w_self]
    have tR4 : o = 0 → pd_w (pd_w (pd_w q7.2 (a + 4 + j) 4 (Int32.ofNat R)) (a + 4 + R) 3 (Int32.ofNat j)) X F (Int32.ofNat j) (a + 4 + R) 4 = Int32.ofNat j := by
      intro z
      rcases hX with ⟨x1, x2, -⟩ | ⟨-, -, x3⟩
      · rw [x1, x2, pd_w_self]
      · omega
    have tR4' : 0 < o → pd_w (pd_w (pd_w q7.2 (a + 4 + j) 4 (Int32.ofNat R)) (a + 4 + R) 3 (Int32.ofNat j)) X F (Int32.ofNat j) (a + 4 + R) 4 = v (a + 4 + R) 4 := by
      intro z
      rcases hX with ⟨-, -, x3⟩ | ⟨x1, x2, -⟩
      · omega
      · rw [x1, pd_w_ne (by omega), pd_w_nk (by decide), pd_w_ne (by omega), qo _ (by omega) (by omega) (by omega)]
    have to3 : 0 < o → pd_w (pd_w (pd_w q7.2 (a + 4 + j) 4 (Int32.ofNat R)) (a + 4 + R) 3 (Int32.ofNat j)) X F (Int32.ofNat j) (a + 4 + o) 3 = Int32.ofNat j := by
      intro z
      rcases hX with ⟨-, -, x3⟩ | ⟨x1, x2, -⟩
      · omega
      · rw [x1, x2, pd_w_self]
    generalize pd_w (pd_w (pd_w q7.2 (a + 4 + j) 4 (Int32.ofNat R)) (a + 4 + R) 3 (Int32.ofNat j)) X F (Int32.ofNat j) = t at nx nxa nr n4 n3 tR3 tj4 tR4 tR4' to3
    refine ZL_g ha hL hp (xns_cp hp hm) pn (by omega) (by omega) hj (fun c c1 c2 c3 => ?_) (fun f c1 c2 => ?_) ?_ ?_ (fun f hf => ?_) ?_ (fun r f hr f3 f4 => ?_) ?_ ?_ ?_ ?_
    · rw [nxa c (by omega) (by omega) (by omega)]; exact qo c c1 c2 (by omega)
    · rw [nx 1 f (by omega) (by omega) (by omega)]; exact q1 f c1 c2
    · rw [nx 1 2 (by omega) (by omega) (by omega)]; exact q12
    · rw [nx 1 5 (by omega) (by omega) (by omega)]; exact q15
    · rw [nx a f (by omega) (by omega) (by omega)]; exact qa f hf
    · rw [nx a 3 (by omega) (by omega) (by omega)]; exact g3
    · rw [nr _ f f3 f4, qo _ (by omega) (by omega) (by omega)]
    · rw [nr _ 1 (by decide) (by decide)]; exact g5
    · rw [nr _ 2 (by decide) (by decide)]; exact g6
    · rw [nr _ 0 (by decide) (by decide), g4, hy]
      have e : (Nat.beq m 1 && decide (s (p + 1) = 123)) = false := by
        by_cases c1 : m = 1
        · rw [decide_eq_false (fun q => hm ⟨c1, q⟩), Bool.and_false]
        · rw [beq_f c1, Bool.false_and]
      rw [e]
      rfl
    · refine ZH_f k0 l12 (by omega) (fun i _ => by rw [nx 87 i (by omega) (by omega) (by omega), qo 87 (by omega) (by omega) (by omega)]) (fun r h' l hr hx hl => ?_) (fun hN => ZN_c hN hL.2.1 hp hRx (fun r hr hr2 hr3 => ?_) (fun r hr hr2 => ?_) tR3 tj4 (fun hm2 => tR4 ?_) (fun hm2 => tR4' ?_) (fun o' p' hm2 ho' hp' => ?_))
      have hrR : r ≠ R := fun c => by
        rw [c, hRx] at hx
        have e2 : k0 = l := congrArg Prod.snd (Option.some.inj hx)
        rw [e2] at hl
        omega
      rw [nr _ 0 (by decide) (by decide), n4 r hr hrR, qo _ (by omega) (by omega) (by omega)]
      exact ⟨rfl, rfl⟩
      · rw [n3 r hr hr2 (fun z => by
          rcases ho3 with ⟨z1, -⟩ | ⟨-, z2, p', z3, z4⟩
          · exact z1
          · rw [← z] at z3
            exact absurd z4 (hr3 p' z2 z3)), qo _ (by omega) (by omega) (by omega)]
      · rw [n4 r hr hr2, qo _ (by omega) (by omega) (by omega)]
      · rcases ho3 with ⟨z1, -⟩ | ⟨-, z2, -⟩
        · exact z1
        · exact absurd z2 hm2
      · rcases ho3 with ⟨-, z2⟩ | ⟨z1, -⟩
        · exact absurd hm2 z2
        · exact z1
      · rcases ho3 with ⟨-, z2⟩ | ⟨z1, -, p'', z3, z4⟩
        · exact absurd hm2 z2
        · rw [zuq ho' hp' z3 z4]
          exact to3 z1
  rw [eT, kT, zsa (show o < 80 by omega)]
  have o00 : decide (Int32.ofNat o = (0 : Int32)) = decide (o = 0) := eq_nat (b := 0) (by omega) (by omega)
  rw [o00]
  exact sf_n (fun z => sf_sb (sf_some (fin _ _ (Or.inr ⟨rfl, rfl, by omega⟩)))) (fun z => sf_some (fin _ _ (Or.inl ⟨rfl, rfl, z⟩)))
end ZCB
