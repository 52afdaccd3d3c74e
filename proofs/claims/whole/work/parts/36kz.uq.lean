/-! each brace closes one block -/
def xDc : Nat → xK → Prop
  | _, [] => True
  | p, (h, _) :: k => h < p ∧ xDc h k
def xNa (h : Nat) (k : xK) : Prop := ∀ y, y ∈ k → y.1 ≠ h
def xNo (h m : Nat) (k : xK) : Prop := ∀ y, y ∈ k → y.1 = h → m = 1 ∧ y.2 = 2
section ZUQ
variable {s : Nat → Int32} {n p p' h m h' m' i j d c c' e r : Nat} {k k' k0 k1 : xK} {v u : pd_V}
theorem xns_up (hs : xns s p k = (true, p', k')) : p < p' := by
  rcases xns_c hs with ⟨-, a, m, k1, -, h4⟩ | ⟨-, r, g1, -, -, g4, -⟩ | ⟨e, g1, -, -, g4, -, -⟩
  · rcases h4 with ⟨-, -, e, -⟩ | ⟨-, e, -⟩ <;> omega
  · have := (xE_g g1).2
    omega
  · omega
theorem xit_rr {r : Nat} (h : xit s (r + 1) (p, k) = some (p', k')) : ∃ p1 k1, xns s p k = (true, p1, k1) ∧ xit s r (p1, k1) = some (p', k') := by
  rw [xit] at h
  rcases pd_cases h with ⟨c, h⟩ | ⟨c, h⟩
  · exact ⟨(xns s p k).2.1, (xns s p k).2.2, Prod.ext c rfl, h⟩
  · exact nomatch h
theorem xit_up : ∀ (d p : Nat) (k : xK), xit s d (p, k) = some (p', k') → p + d ≤ p' := by
  intro d
  induction d with
  | zero =>
    intro p k h
    have e : p = p' := congrArg Prod.fst (Option.some.inj h)
    omega
  | succ d ih =>
    intro p k h
    obtain ⟨p1, k1, ns, h1⟩ := xit_rr h
    have a := xns_up ns
    have b := ih p1 k1 h1
    omega
theorem xit_sp (h1 : xit s i (0, []) = some (p, k)) (h2 : xit s j (0, []) = some (p', k')) (hij : i ≤ j) : xit s (j - i) (p, k) = some (p', k') := by
  rw [show j = i + (j - i) by omega, xit_add, h1] at h2
  exact h2
theorem xit_lt (h1 : xit s i (0, []) = some (p, k)) (h2 : xit s j (0, []) = some (p', k')) (hp : p < p') : i < j := by
  rcases Nat.lt_or_ge i j with q | q
  · exact q
  · have := xit_up _ _ _ (xit_sp h2 h1 q)
    omega
theorem xit_in (h1 : xit s i (0, []) = some (p, k)) (h2 : xit s j (0, []) = some (p, k')) : i = j := by
  rcases Nat.lt_trichotomy i j with q | q | q
  · have := xit_up _ _ _ (xit_sp h1 h2 (by omega))
    omega
  · exact q
  · have := xit_up _ _ _ (xit_sp h2 h1 (by omega))
    omega
theorem xDc_m : ∀ {p p' : Nat} {k : xK}, xDc p k → p ≤ p' → xDc p' k
  | _, _, [], _, _ => trivial
  | _, _, (_, _) :: _, h1, h2 => ⟨Nat.lt_of_lt_of_le h1.1 h2, h1.2⟩
theorem xDc_s (hs : xns s p k = (true, p', k')) (hk : xDc p k) : xDc p' k' := by
  have up := xns_up hs
  rcases xns_c hs with ⟨-, a, m, k1, e1, h4⟩ | ⟨-, r, -, -, -, -, g5⟩ | ⟨e, -, g2, -⟩
  · subst e1
    rcases h4 with ⟨-, -, -, e⟩ | ⟨-, -, e⟩
    · subst e
      exact ⟨Nat.lt_trans hk.1 up, hk.2⟩
    · subst e
      exact xDc_m hk.2 (by have := hk.1; omega)
  · subst g5
    exact ⟨up, hk⟩
  · subst g2
    exact xDc_m hk (by omega)
theorem xDc_i : ∀ (i p : Nat) (k : xK), xit s i (0, []) = some (p, k) → xDc p k := by
  intro i
  induction i with
  | zero =>
    intro p k h
    have e : ([] : xK) = k := congrArg Prod.snd (Option.some.inj h)
    subst e
    exact trivial
  | succ i ih =>
    intro p k h
    rw [xit_add] at h
    obtain ⟨⟨p0, k0⟩, h1, h2⟩ := pd_bind h
    exact xDc_s (xit_1 h2) (ih p0 k0 h1)
theorem xDc_a : ∀ {p : Nat} {k : xK}, xDc p k → ∀ y, y ∈ k → y.1 < p
  | _, [], _, y, hy => nomatch hy
  | _, (a, b) :: k, h1, y, hy => by
    rcases List.mem_cons.mp hy with e | e
    · rw [e]; exact h1.1
    · have := xDc_a h1.2 y e
      have := h1.1
      omega
theorem xNa_s (hs : xns s p k = (true, p', k')) (hp : h < p) (hk : xNa h k) : xNa h k' := by
  rcases xns_c hs with ⟨-, a, m, k1, e1, h4⟩ | ⟨-, r, -, -, -, -, g5⟩ | ⟨e, -, g2, -⟩
  · subst e1
    rcases h4 with ⟨-, -, -, e⟩ | ⟨-, -, e⟩
    · subst e
      intro y hy
      rcases List.mem_cons.mp hy with q | q
      · rw [q]; exact hk (a, m) List.mem_cons_self
      · exact hk y (List.mem_cons_of_mem _ q)
    · subst e
      exact fun y hy => hk y (List.mem_cons_of_mem _ hy)
  · subst g5
    intro y hy
    rcases List.mem_cons.mp hy with q | q
    · rw [q]; exact fun z => by have z' : p = h := z; omega
    · exact hk y q
  · subst g2
    exact hk
theorem xNo_s (hs : xns s p k = (true, p', k')) (hp : h < p) (hk : xNo h m k) : xNo h m k' := by
  rcases xns_c hs with ⟨-, a, m0, k1, e1, h4⟩ | ⟨-, r, -, -, -, -, g5⟩ | ⟨e, -, g2, -⟩
  · subst e1
    rcases h4 with ⟨e0, -, -, e⟩ | ⟨-, -, e⟩
    · subst e
      intro y hy hz
      rcases List.mem_cons.mp hy with q | q
      · rw [q] at hz ⊢
        exact ⟨(hk (a, m0) List.mem_cons_self hz).1, rfl⟩
      · exact hk y (List.mem_cons_of_mem _ q) hz
    · subst e
      exact fun y hy => hk y (List.mem_cons_of_mem _ hy)
  · subst g5
    intro y hy hz
    rcases List.mem_cons.mp hy with q | q
    · rw [q] at hz
      have z' : p = h := hz
      omega
    · exact hk y q hz
  · subst g2
    exact hk
theorem xNa_d : ∀ (d p : Nat) (k : xK), xit s d (p, k) = some (p', k') → h < p → xNa h k → xNa h k' := by
  intro d
  induction d with
  | zero =>
    intro p k h1 _ hk
    have e : k = k' := congrArg Prod.snd (Option.some.inj h1)
    rw [← e]
    exact hk
  | succ d ih =>
    intro p k h1 hp hk
    obtain ⟨p1, k1, ns, h2⟩ := xit_rr h1
    have := xns_up ns
    exact ih p1 k1 h2 (by omega) (xNa_s ns hp hk)
theorem xNo_d : ∀ (d p : Nat) (k : xK), xit s d (p, k) = some (p', k') → h < p → xNo h m k → xNo h m k' := by
  intro d
  induction d with
  | zero =>
    intro p k h1 _ hk
    have e : k = k' := congrArg Prod.snd (Option.some.inj h1)
    rw [← e]
    exact hk
  | succ d ih =>
    intro p k h1 hp hk
    obtain ⟨p1, k1, ns, h2⟩ := xit_rr h1
    have := xns_up ns
    exact ih p1 k1 h2 (by omega) (xNo_s ns hp hk)
/-- behind its last brace a block is not open -/
theorem zuf (h1 : xit s i (0, []) = some (c, (h, m) :: k0)) (hc : s c = 125) (hm : ¬ (m = 1 ∧ s (c + 1) = 123)) (h2 : xit s j (0, []) = some (p', k')) (hij : i < j) : xNa h k' := by
  have h3 := xit_sp h1 h2 (by omega)
  rw [show j - i = (j - i - 1) + 1 by omega] at h3
  obtain ⟨p1, k1, ns, h4⟩ := xit_rr h3
  have dc := xDc_i _ _ _ h1
  have up := xns_up ns
  rcases xns_c ns with ⟨-, a, m', k2, e1, h5⟩ | ⟨t | t, -⟩ | ⟨e, -, -, -, -, -, t⟩
  · obtain ⟨e2, e3⟩ := List.cons.inj e1
    rcases h5 with ⟨q1, q2, -, -⟩ | ⟨-, -, q3⟩
    · exact absurd ⟨(congrArg Prod.snd e2).trans q1, q2⟩ hm
    · refine xNa_d _ _ _ h4 (by have := dc.1; omega) ?_
      rw [q3, ← e3]
      intro y hy z
      have := xDc_a dc.2 y hy
      omega
  · rw [t] at hc; exact absurd hc (by decide)
  · rw [t] at hc; exact absurd hc (by decide)
  · exact absurd hc (XS_h t).1
theorem zuq_1 (h1 : xit s i (0, []) = some (c, (h, m) :: k0)) (hc : s c = 125) (h2 : xit s j (0, []) = some (p', k')) (hij : i < j) : xNo h m k' := by
  have h3 := xit_sp h1 h2 (by omega)
  rw [show j - i = (j - i - 1) + 1 by omega] at h3
  obtain ⟨p1, k1, ns, h4⟩ := xit_rr h3
  have dc := xDc_i _ _ _ h1
  have up := xns_up ns
  rcases xns_c ns with ⟨-, a, m', k2, e1, h5⟩ | ⟨t | t, -⟩ | ⟨e, -, -, -, -, -, t⟩
  · obtain ⟨e2, e3⟩ := List.cons.inj e1
    have e4 : h = a := congrArg Prod.fst e2
    have e5 : m = m' := congrArg Prod.snd e2
    refine xNo_d _ _ _ h4 (by have := dc.1; omega) ?_
    have low : ∀ y, y ∈ k2 → y.1 ≠ h := fun y hy z => by
      rw [← e3] at hy
      have := xDc_a dc.2 y hy
      omega
    rcases h5 with ⟨q1, q2, -, q3⟩ | ⟨-, -, q3⟩
    · rw [q3]
      intro y hy z
      rcases List.mem_cons.mp hy with q | q
      · rw [q]; exact ⟨e5.trans q1, rfl⟩
      · exact absurd z (low y q)
    · rw [q3]
      exact fun y hy z => absurd z (low y hy)
  · rw [t] at hc; exact absurd hc (by decide)
  · rw [t] at hc; exact absurd hc (by decide)
  · exact absurd hc (XS_h t).1
theorem zuq (h1 : xit s i (0, []) = some (c, (h, m) :: k0)) (hc : s c = 125) (h2 : xit s j (0, []) = some (c', (h, m) :: k1)) (hc' : s c' = 125) : i = j := by
  rcases Nat.lt_trichotomy i j with q | q | q
  · have := zuq_1 h1 hc h2 q (h, m) List.mem_cons_self rfl
    have e : m = 1 ∧ m = 2 := this
    omega
  · exact q
  · have := zuq_1 h2 hc' h1 q (h, m) List.mem_cons_self rfl
    have e : m = 1 ∧ m = 2 := this
    omega
/-- where the rows point -/
def ZN (s : Nat → Int32) (j a : Nat) (v : pd_V) : Prop := ∀ r e h m k0 p, e < j → xit s r (0, []) = some (h, k0) → xit s e (0, []) = some (p, (h, m) :: k0) → s p = 125 → (¬ (m = 1 ∧ s (p + 1) = 123) → v (a + 4 + r) 3 = Int32.ofNat e ∧ v (a + 4 + e) 4 = Int32.ofNat r) ∧ (m ≠ 2 → v (a + 4 + r) 4 = Int32.ofNat e) ∧ (∀ o p', m = 2 → xit s o (0, []) = some (p', (h, 1) :: k0) → s p' = 125 → v (a + 4 + o) 3 = Int32.ofNat e)
theorem ZN_0 {a : Nat} : ZN s 0 a v := fun _ _ _ _ _ _ h => absurd h (Nat.not_lt_zero _)
theorem hd_s (h1 : xit s e (0, []) = some (p, (h, m) :: k0)) : (m = 0 ∧ s h = 42) ∨ ((m = 1 ∨ m = 2) ∧ s h = 63) := (xR_SI ⟨e, h1⟩).2.1
theorem hd_lt (h1 : xit s r (0, []) = some (h, k0)) (h2 : xit s e (0, []) = some (p, (h, m) :: k1)) : r < e := xit_lt h1 h2 (xDc_i _ _ _ h2).1
theorem xNm_s (hs : xns s p k = (true, p', k')) (hp : h < p) (hk : ∀ y, y ∈ k → y.1 = h → y.2 = 2) : ∀ y, y ∈ k' → y.1 = h → y.2 = 2 := by
  rcases xns_c hs with ⟨-, a, m0, k1, e1, h4⟩ | ⟨-, r, -, -, -, -, g5⟩ | ⟨e, -, g2, -⟩
  · subst e1
    rcases h4 with ⟨e0, -, -, e⟩ | ⟨-, -, e⟩
    · subst e
      intro y hy hz
      rcases List.mem_cons.mp hy with q | q
      · rw [q]
      · exact hk y (List.mem_cons_of_mem _ q) hz
    · subst e
      exact fun y hy => hk y (List.mem_cons_of_mem _ hy)
  · subst g5
    intro y hy hz
    rcases List.mem_cons.mp hy with q | q
    · rw [q] at hz
      have z' : p = h := hz
      omega
    · exact hk y q hz
  · subst g2
    exact hk
theorem xNm_d : ∀ (d p : Nat) (k : xK), xit s d (p, k) = some (p', k') → h < p → (∀ y, y ∈ k → y.1 = h → y.2 = 2) → ∀ y, y ∈ k' → y.1 = h → y.2 = 2 := by
  intro d
  induction d with
  | zero =>
    intro p k h1 _ hk
    have e : k = k' := congrArg Prod.snd (Option.some.inj h1)
    rw [← e]
    exact hk
  | succ d ih =>
    intro p k h1 hp hk
    obtain ⟨p1, k1, ns, h2⟩ := xit_rr h1
    have := xns_up ns
    exact ih p1 k1 h2 (by omega) (xNm_s ns hp hk)
theorem els_lt (h1 : xit s r (0, []) = some (p', (h, 1) :: k0)) (h2 : xit s e (0, []) = some (p, (h, 2) :: k1)) : r < e := by
  rcases Nat.lt_or_ge r e with q | q
  · exact q
  · have dc := xDc_i _ _ _ h2
    have := xNm_d _ _ _ (xit_sp h2 h1 q) dc.1 (fun y hy z => by
      rcases List.mem_cons.mp hy with w | w
      · rw [w]
      · have := xDc_a dc.2 y w
        omega) (h, 1) List.mem_cons_self rfl
    exact absurd this (show (1 : Nat) ≠ 2 by decide)
/-- the rows before stand, and the new one closes nothing -/
theorem ZN_s {a : Nat} (hN : ZN s j a v) (hx : xit s j (0, []) = some (p, k)) (h7 : ¬ (s p = 125 ∧ k ≠ [])) (hr : ∀ r, r < j → u (a + 4 + r) = v (a + 4 + r)) : ZN s (j + 1) a u := by
  intro r e h m k0 q he h1 h2 h3
  have hre := hd_lt h1 h2
  by_cases c : e = j
  · subst c
    rw [hx] at h2
    have e0 := Option.some.inj h2
    have e1 : p = q := congrArg Prod.fst e0
    have e2 : k = (h, m) :: k0 := congrArg Prod.snd e0
    exact absurd ⟨by rw [e1]; exact h3, by rw [e2]; exact fun z => nomatch z⟩ h7
  · obtain ⟨n1, n2, n3⟩ := hN r e h m k0 q (by omega) h1 h2 h3
    refine ⟨fun hf => ?_, fun hm => ?_, fun o p' hm ho hp' => ?_⟩
    · rw [hr r (by omega), hr e (by omega)]; exact n1 hf
    · rw [hr r (by omega)]; exact n2 hm
    · subst hm
      have := els_lt ho h2
      rw [hr o (by omega)]
      exact n3 o p' rfl ho hp'
/-- a last brace -/
theorem ZN_c {a R : Nat} (hN : ZN s j a v) (hx : xit s j (0, []) = some (p, (h, m) :: k0)) (hp : s p = 125) (hRx : xit s R (0, []) = some (h, k0)) (hj3 : ∀ r, r < j → r ≠ R → (∀ p', m = 2 → xit s r (0, []) = some (p', (h, 1) :: k0) → s p' ≠ 125) → u (a + 4 + r) 3 = v (a + 4 + r) 3) (h4 : ∀ r, r < j → r ≠ R → u (a + 4 + r) 4 = v (a + 4 + r) 4) (hR3 : u (a + 4 + R) 3 = Int32.ofNat j) (hj4 : u (a + 4 + j) 4 = Int32.ofNat R) (hR4 : m ≠ 2 → u (a + 4 + R) 4 = Int32.ofNat j) (hR4' : m = 2 → u (a + 4 + R) 4 = v (a + 4 + R) 4) (ho3 : ∀ o p', m = 2 → xit s o (0, []) = some (p', (h, 1) :: k0) → s p' = 125 → u (a + 4 + o) 3 = Int32.ofNat j) : ZN s (j + 1) a u := by
  intro r e h' m' k0' q he h1 h2 h3
  have hre := hd_lt h1 h2
  have hsh := hd_s hx
  have hsh' := hd_s h2
  have eqh : r = R → h' = h := fun z => by
    rw [z, hRx] at h1
    exact (congrArg Prod.fst (Option.some.inj h1)).symm
  by_cases c : e = j
  · subst c
    rw [hx] at h2
    have e0 := Option.some.inj h2
    have e1 : p = q := congrArg Prod.fst e0
    have e2 : (h, m) :: k0 = (h', m') :: k0' := congrArg Prod.snd e0
    obtain ⟨e3, e4⟩ := List.cons.inj e2
    have e5 : h = h' := congrArg Prod.fst e3
    have e6 : m = m' := congrArg Prod.snd e3
    subst e1 e4 e5 e6
    have er : r = R := xit_in h1 hRx
    subst er
    exact ⟨fun _ => ⟨hR3, hj4⟩, hR4, ho3⟩
  · obtain ⟨n1, n2, n3⟩ := hN r e h' m' k0' q (by omega) h1 h2 h3
    have eR : e ≠ R := fun z => by
      rw [z, hRx] at h2
      have z1 : h = q := congrArg Prod.fst (Option.some.inj h2)
      rw [z1, h3] at hsh
      rcases hsh with ⟨-, z2⟩ | ⟨-, z2⟩ <;> exact absurd z2 (by decide)
    refine ⟨fun hf => ?_, fun hm => ?_, fun o p' hm ho hp' => ?_⟩
    · have rR : r ≠ R := fun z => by
        have := zuf h2 h3 hf hx (by omega) (h, m) List.mem_cons_self
        exact this (eqh z).symm
      rw [hj3 r (by omega) rR (fun p' _ hxr => by
        rw [h1] at hxr
        have z1 : h' = p' := congrArg Prod.fst (Option.some.inj hxr)
        rw [← z1]
        rcases hsh' with ⟨-, z2⟩ | ⟨-, z2⟩ <;> (rw [z2]; decide)), h4 e (by omega) eR]
      exact n1 hf
    · by_cases rR : r = R
      · have hh := eqh rR
        by_cases m2 : m = 2
        · rw [rR, hR4' m2, ← rR]
          exact n2 hm
        · have mm : m' = m := by
            rw [hh] at hsh'
            rcases hsh with ⟨z1, z2⟩ | ⟨z1, z2⟩ <;> rcases hsh' with ⟨y1, y2⟩ | ⟨y1, y2⟩
            · omega
            · rw [z2] at y2; exact absurd y2 (by decide)
            · rw [z2] at y2; exact absurd y2 (by decide)
            · omega
          rw [hh, mm] at h2
          exact absurd (zuq h2 h3 hx hp) c
      · rw [h4 r (by omega) rR]
        exact n2 hm
    · subst hm
      have oe := els_lt ho h2
      have oR : o ≠ R := fun z => by
        rw [z, hRx] at ho
        have z1 : h = p' := congrArg Prod.fst (Option.some.inj ho)
        rw [z1, hp'] at hsh
        rcases hsh with ⟨-, z2⟩ | ⟨-, z2⟩ <;> exact absurd z2 (by decide)
      rw [hj3 o (by omega) oR (fun p'' hm2 hxo => by
        rw [ho] at hxo
        have z1 : (h', 1) :: k0' = (h, 1) :: k0 := congrArg Prod.snd (Option.some.inj hxo)
        have z2 : h' = h := congrArg Prod.fst (List.cons.inj z1).1
        rw [z2, ← hm2] at h2
        exact absurd (zuq h2 h3 hx hp) c)]
      exact n3 o p' rfl ho hp'
/-- a brace with a second block behind it -/
theorem ZN_e {a R : Nat} (hN : ZN s j a v) (hx : xit s j (0, []) = some (p, (h, m) :: k0)) (hp : s p = 125) (hm : m = 1) (hp1 : s (p + 1) = 123) (hRx : xit s R (0, []) = some (h, k0)) (h3' : ∀ r, r < j → u (a + 4 + r) 3 = v (a + 4 + r) 3) (h4 : ∀ r, r < j → r ≠ R → u (a + 4 + r) 4 = v (a + 4 + r) 4) (hR4 : u (a + 4 + R) 4 = Int32.ofNat j) : ZN s (j + 1) a u := by
  intro r e h' m' k0' q he h1 h2 h3
  have hre := hd_lt h1 h2
  have hsh := hd_s hx
  have hsh' := hd_s h2
  have eqh : r = R → h' = h := fun z => by
    rw [z, hRx] at h1
    exact (congrArg Prod.fst (Option.some.inj h1)).symm
  by_cases c : e = j
  · subst c
    rw [hx] at h2
    have e0 := Option.some.inj h2
    have e1 : p = q := congrArg Prod.fst e0
    have e2 : (h, m) :: k0 = (h', m') :: k0' := congrArg Prod.snd e0
    obtain ⟨e3, e4⟩ := List.cons.inj e2
    have e5 : h = h' := congrArg Prod.fst e3
    have e6 : m = m' := congrArg Prod.snd e3
    subst e1 e4 e5 e6
    have er : r = R := xit_in h1 hRx
    subst er
    exact ⟨fun hf => absurd ⟨hm, hp1⟩ hf, fun _ => hR4, fun o p' h2' => by omega⟩
  · obtain ⟨n1, n2, n3⟩ := hN r e h' m' k0' q (by omega) h1 h2 h3
    have eR : e ≠ R := fun z => by
      rw [z, hRx] at h2
      have z1 : h = q := congrArg Prod.fst (Option.some.inj h2)
      rw [z1, h3] at hsh
      rcases hsh with ⟨-, z2⟩ | ⟨-, z2⟩ <;> exact absurd z2 (by decide)
    refine ⟨fun hf => ?_, fun hm' => ?_, fun o p' hm' ho hp' => ?_⟩
    · rw [h3' r (by omega), h4 e (by omega) eR]
      exact n1 hf
    · by_cases rR : r = R
      · have hh := eqh rR
        have mm : m' = m := by
          rw [hh] at hsh'
          rcases hsh with ⟨z1, z2⟩ | ⟨z1, z2⟩ <;> rcases hsh' with ⟨y1, y2⟩ | ⟨y1, y2⟩
          · omega
          · rw [z2] at y2; exact absurd y2 (by decide)
          · rw [z2] at y2; exact absurd y2 (by decide)
          · omega
        rw [hh, mm] at h2
        exact absurd (zuq h2 h3 hx hp) c
      · rw [h4 r (by omega) rR]
        exact n2 hm'
    · subst hm'
      have oe := els_lt ho h2
      rw [h3' o (by omega)]
      exact n3 o p' rfl ho hp'
end ZUQ
