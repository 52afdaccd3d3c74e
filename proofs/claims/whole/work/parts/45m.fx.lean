/-! what varies is found to the end -/
def vbl (s : Nat → Int32) (W : Int32) (h : Nat) : Bool := xdf s (h + 1) ((xE s (h + 1)).2 - (h + 1)) W
def vbs (s : Nat → Int32) (W : Int32) : xK → List Bool
  | [] => []
  | (h, _) :: k => vbl s W h :: vbs s W k
def FXP (s : Nat → Int32) (W : Int32) : Prop := ∀ p k p' k', xR s p k → xns s p k = (true, p', k') → (s p = 88 → zbt W (s (p + 1) - 97).toNatClampNeg = true ∧ zun (vbs s W k) = false) ∧ (xvar (s p) = true → (xdf s (p + 2) ((xE s (p + 2)).2 - (p + 2)) W = true ∨ zun (vbs s W k) = true) → zbt W (s p - 97).toNatClampNeg = true)
section YFX
variable {s : Nat → Int32} {n m p p' q r N i j : Nat} {W : Int32} {k k' : xK} {x : xLS} {f g : Nat → Bool}
theorem zsh_z {c : Int32} (h : xvar c = true) (j : Nat) : zbt (zsh (c - 97)) j = decide ((c - 97).toNatClampNeg = j) := by
  obtain ⟨i, hi, e⟩ := vcaseN h
  have z := zsh_t
  have z1 := List.all_eq_true.mp z i (List.mem_range.mpr hi)
  obtain ⟨z2, -⟩ := and_c z1
  obtain ⟨z3, z4⟩ := and_c z2
  obtain ⟨z5, -⟩ := and_c z3
  have z5 : (zsh (Int32.ofNat i)).toBitVec = BitVec.twoPow 32 i := of_decide_eq_true z5
  rw [e, cl_nat (by omega)]
  unfold zbt
  rw [z5, BitVec.getLsbD_twoPow, decide_eq_true (show i < 32 by omega), Bool.true_and]
theorem xlk_1 (h : zbt x.1 i = true) : zbt (xlk s p k x).1 i = true := by
  have o : ∀ y : Int32, zbt (x.1 ||| y) i = true := fun y => by rw [zbt_or, h, Bool.true_or]
  unfold xlk
  cases decide (s p = 125) with
  | true =>
    show zbt (bif xsec s p k then x else (x.1, x.2.1.tail, x.2.2)).1 i = true
    cases xsec s p k <;> exact h
  | false =>
    show zbt (bif decide (s p = 63) || decide (s p = 42) then _ else _ : xLS).1 i = true
    cases (decide (s p = 63) || decide (s p = 42)) with
    | true => exact h
    | false =>
      show zbt (bif decide (s p = 88) then _ else _ : xLS).1 i = true
      cases decide (s p = 88) with
      | true => exact o _
      | false =>
        show zbt (bif xvar (s p) then _ else _ : xLS).1 i = true
        cases xvar (s p) with
        | false => exact h
        | true =>
          show zbt (bif xdf s (p + 2) ((xE s (p + 2)).2 - (p + 2)) x.1 || zun x.2.1 then x.1 ||| zsh (s p - 97) else x.1) i = true
          cases (xdf s (p + 2) ((xE s (p + 2)).2 - (p + 2)) x.1 || zun x.2.1) with
          | true => exact o _
          | false => exact h
theorem xlk_P (h : x.2.2 ≠ -1) : (xlk s p k x).2.2 = x.2.2 := by
  unfold xlk
  cases decide (s p = 125) with
  | true =>
    show (bif xsec s p k then x else (x.1, x.2.1.tail, x.2.2)).2.2 = _
    cases xsec s p k <;> rfl
  | false =>
    show (bif decide (s p = 63) || decide (s p = 42) then _ else _ : xLS).2.2 = _
    cases (decide (s p = 63) || decide (s p = 42)) with
    | true => rfl
    | false =>
      show (bif decide (s p = 88) then _ else _ : xLS).2.2 = _
      cases decide (s p = 88) with
      | true =>
        show (bif zun x.2.1 && decide (x.2.2 = -1) then Int32.ofNat p else x.2.2) = _
        rw [decide_eq_false h, Bool.and_false]
        rfl
      | false =>
        show (bif xvar (s p) then _ else _ : xLS).2.2 = _
        cases xvar (s p) <;> rfl
theorem xlit_1 : ∀ (r p : Nat) (k : xK) (x : xLS), zbt x.1 i = true → zbt (xlit s r p k x).1 i = true
  | 0, _, _, _, h => h
  | r + 1, p, k, x, h => xlit_1 r _ _ _ (xlk_1 h)
theorem xlit_P : ∀ (r p : Nat) (k : xK) (x : xLS), x.2.2 ≠ -1 → (xlit s r p k x).2.2 = x.2.2
  | 0, _, _, _, _ => rfl
  | r + 1, p, k, x, h => by
    have h1 : (xlk s p k x).2.2 = x.2.2 := xlk_P h
    have h2 := xlit_P r (xns s p k).2.1 (xns s p k).2.2 (xlk s p k x) (by rw [h1]; exact h)
    exact h2.trans h1
/-- the upper bits stay -/
theorem xlk_u (hs : xns s p k = (true, p', k')) (hi : 8 ≤ i) : zbt (xlk s p k x).1 i = zbt x.1 i := by
  have o : ∀ c : Int32, xvar c = true → zbt (x.1 ||| zsh (c - 97)) i = zbt x.1 i := fun c hc => by
    have := vix hc
    rw [zbt_or, zsh_z hc, decide_eq_false (by omega), Bool.or_false]
  unfold xlk
  cases decide (s p = 125) with
  | true =>
    show zbt (bif xsec s p k then x else (x.1, x.2.1.tail, x.2.2)).1 i = _
    cases xsec s p k <;> rfl
  | false =>
    show zbt (bif decide (s p = 63) || decide (s p = 42) then _ else _ : xLS).1 i = _
    cases (decide (s p = 63) || decide (s p = 42)) with
    | true => rfl
    | false =>
      show zbt (bif decide (s p = 88) then _ else _ : xLS).1 i = _
      cases h88 : decide (s p = 88) with
      | true =>
        obtain ⟨e, hX, -⟩ := HX_t hs (of_decide_eq_true h88)
        exact o _ hX.2.1
      | false =>
        show zbt (bif xvar (s p) then _ else _ : xLS).1 i = _
        cases hv : xvar (s p) with
        | false => rfl
        | true =>
          show zbt (bif xdf s (p + 2) ((xE s (p + 2)).2 - (p + 2)) x.1 || zun x.2.1 then x.1 ||| zsh (s p - 97) else x.1) i = _
          cases (xdf s (p + 2) ((xE s (p + 2)).2 - (p + 2)) x.1 || zun x.2.1) with
          | true => exact o _ hv
          | false => rfl
theorem xlit_u (hi : 8 ≤ i) : ∀ (r p : Nat) (k : xK) (x : xLS), xit s r (p, k) = some (p', k') → zbt (xlit s r p k x).1 i = zbt x.1 i := by
  intro r
  induction r with
  | zero => intro p k x _; rfl
  | succ r ih =>
    intro p k x h
    obtain ⟨p1, k1, hs, h2⟩ := xit_r h
    rw [xlit_s hs, ih p1 k1 _ h2, xlk_u hs hi]
theorem xlit_a : ∀ (j r p : Nat) (k : xK) (x : xLS), xit s j (p, k) = some (p', k') → xlit s (j + r) p k x = xlit s r p' k' (xlit s j p k x) := by
  intro j
  induction j with
  | zero =>
    intro r p k x h
    have h : some (p, k) = some (p', k') := h
    have h := Option.some.inj h
    have e1 : p = p' := congrArg Prod.fst h
    have e2 : k = k' := congrArg Prod.snd h
    subst e1 e2
    rw [Nat.zero_add]
    rfl
  | succ j ih =>
    intro r p k x h
    obtain ⟨p1, k1, hs, h2⟩ := xit_r h
    rw [show j + 1 + r = (j + r) + 1 by omega, xlit_s hs, xlit_s hs]
    exact ih r p1 k1 _ h2
theorem zpt_n {p : Nat} (hp : p ≤ 1000) : Int32.ofNat p ≠ -1 := fun h => by
  have h1 := congrArg Int32.toInt h
  rw [Int32.toInt_ofNat_of_lt (by omega), sI_m1] at h1
  omega
/-- where nothing is found any more, each statement says so -/
theorem fx_j (hn : n ≤ 160) (h0 : ∀ j, n ≤ j → s j = 0) (hx : xit s N (0, []) = some (n, [])) (hz : zL s N W = (W, -1)) : ∀ (j p : Nat) (k : xK), xit s j (0, []) = some (p, k) → xlit s j 0 [] (W, [], -1) = (W, vbs s W k, -1) := by
  have h1 : (xlit s N 0 [] (W, [], -1)).1 = W := congrArg Prod.fst hz
  have h2 : (xlit s N 0 [] (W, [], -1)).2.2 = -1 := congrArg Prod.snd hz
  have key : ∀ j p k, xit s j (0, []) = some (p, k) → (xlit s j 0 [] (W, [], -1)).1 = W ∧ (xlit s j 0 [] (W, [], -1)).2.2 = -1 := by
    intro j p k hj
    have up := (xit_up1 h0 hx hj).1
    have ea := xlit_a (s := s) j (N - j) 0 [] (W, [], -1) hj
    rw [show j + (N - j) = N by omega] at ea
    refine ⟨i32_x (fun i => ?_), ?_⟩
    · cases hi : zbt W i with
      | true => exact xlit_1 j 0 [] (W, [], -1) hi
      | false =>
        cases hb : zbt (xlit s j 0 [] (W, [], -1)).1 i with
        | false => rfl
        | true =>
          have h3 := xlit_1 (s := s) (i := i) (N - j) p k (xlit s j 0 [] (W, [], -1)) hb
          rw [← ea, h1, hi] at h3
          exact absurd h3 (by decide)
    · by_cases c : (xlit s j 0 [] (W, [], -1)).2.2 = -1
      · exact c
      · have h3 := xlit_P (s := s) (N - j) p k (xlit s j 0 [] (W, [], -1)) c
        rw [← ea, h2] at h3
        exact h3.symm
  intro j
  induction j with
  | zero =>
    intro p k hj
    have h := Option.some.inj hj
    have e2 : [] = k := congrArg Prod.snd h
    subst e2
    rfl
  | succ j ih =>
    intro p k hj
    obtain ⟨k1, k2⟩ := key (j + 1) p k hj
    have hj0 := hj
    rw [xit_add j 1] at hj
    cases hq : xit s j (0, []) with
    | none => rw [hq] at hj; exact absurd hj (fun z => nomatch z)
    | some y =>
      obtain ⟨p0, k0⟩ := y
      rw [hq] at hj
      have hs : xns s p0 k0 = (true, p, k) := xit_1 hj
      have ej := ih p0 k0 hq
      have ea := xlit_a (s := s) j 1 0 [] (W, [], -1) hq
      have e1 : xlit s (j + 1) 0 [] (W, [], -1) = xlk s p0 k0 (W, vbs s W k0, -1) := by
        rw [ea, ej]
        rfl
      have e3 : (xlk s p0 k0 (W, vbs s W k0, -1)).2.1 = vbs s W k := by
        rcases xns_c hs with ⟨c, a, m, kk, ek, t⟩ | ⟨c, r, g1, g2, g3, g4, g5⟩ | ⟨e, -, ek, -, -, -, t⟩
        · subst ek
          rcases t with ⟨t1, t2, -, t4⟩ | ⟨t1, -, t3⟩
          · rw [xlk_E c t1 t2, t4]
            rfl
          · rw [xlk_C c t1, t3]
            rfl
        · rw [xlk_B c g1, g5]
          show xdf s (p0 + 1) (r - (p0 + 1)) W :: vbs s W k0 = vbl s W p0 :: vbs s W k0
          unfold vbl
          rw [g1]
        · rw [ek]
          rcases t with ⟨t, -⟩ | ⟨t, -⟩ | ⟨t, -⟩ | ⟨t, -⟩ | ⟨t, -, g⟩
          · rw [xlk_n (Or.inl t)]
          · rw [xlk_n (Or.inr (Or.inl t))]
          · rw [xlk_n (Or.inr (Or.inr t))]
          · rw [xlk_X t]
          · rw [xlk_V t g]
      rw [e1] at k1 k2
      rw [e1, ← e3]
      exact Prod.ext k1 (Prod.ext rfl k2)
theorem fxp_t (hn : n ≤ 160) (h0 : ∀ j, n ≤ j → s j = 0) (hx : xit s N (0, []) = some (n, [])) (hz : zL s N W = (W, -1)) : FXP s W := by
  intro p k p' k' hR hs
  obtain ⟨j, hj⟩ := hR
  have hpn := xns_lt h0 hs
  have e1 := fx_j hn h0 hx hz j p k hj
  have e2 := fx_j hn h0 hx hz (j + 1) p' k' (xit_s hj hs)
  have ea := xlit_a (s := s) j 1 0 [] (W, [], -1) hj
  have e3 : xlk s p k (W, vbs s W k, -1) = (W, vbs s W k', -1) := by
    rw [← e2, ea, e1]
    rfl
  refine ⟨fun h88 => ?_, fun hv hd => ?_⟩
  · rw [xlk_X h88] at e3
    obtain ⟨e, hX, -⟩ := HX_t hs h88
    have a1 : W ||| zsh (s (p + 1) - 97) = W := congrArg Prod.fst e3
    have a2 : (bif zun (vbs s W k) && decide ((-1 : Int32) = -1) then Int32.ofNat p else -1) = -1 := congrArg (fun z => z.2.2) e3
    refine ⟨?_, ?_⟩
    · rw [← a1, zbt_or, zsh_z hX.2.1, decide_eq_true rfl, Bool.or_true]
    · cases hu : zun (vbs s W k) with
      | false => rfl
      | true =>
        rw [hu] at a2
        exact absurd a2 (zpt_n (by omega))
  · have g : ∃ e, xE s (p + 2) = (true, e) := by
      rcases xns_c hs with ⟨t, -⟩ | ⟨t | t, -⟩ | ⟨e, -, -, -, -, -, t⟩
      · exact absurd t (xvar_x hv 125 (by decide))
      · exact absurd t (xvar_x hv 63 (by decide))
      · exact absurd t (xvar_x hv 42 (by decide))
      · rcases t with ⟨t, -⟩ | ⟨t, -⟩ | ⟨t, -⟩ | ⟨t, -⟩ | ⟨-, -, g⟩
        · exact absurd t (xvar_x hv 79 (by decide))
        · exact absurd t (xvar_x hv 82 (by decide))
        · exact absurd t (xvar_x hv 76 (by decide))
        · exact absurd t (xvar_x hv 88 (by decide))
        · exact ⟨e, g⟩
    obtain ⟨e, g⟩ := g
    rw [xlk_V hv g] at e3
    rw [g] at hd
    have a1 : (bif xdf s (p + 2) (e - (p + 2)) W || zun (vbs s W k) then W ||| zsh (s p - 97) else W) = W := congrArg Prod.fst e3
    have hc : (xdf s (p + 2) (e - (p + 2)) W || zun (vbs s W k)) = true := by
      rcases hd with hd | hd
      · have hd : xdf s (p + 2) (e - (p + 2)) W = true := hd
        rw [hd, Bool.true_or]
      · rw [hd, Bool.or_true]
    rw [hc] at a1
    have a1 : W ||| zsh (s p - 97) = W := a1
    rw [← a1, zbt_or, zsh_z hv, decide_eq_true rfl, Bool.or_true]
/-! nine looks are enough -/
theorem zb01_m {a b : Bool} (h : a = true → b = true) : zb01 a ≤ zb01 b := by
  cases a with
  | false => exact Nat.zero_le _
  | true => rw [h rfl]; exact Nat.le_refl _
theorem znc_m (h : ∀ i, i < 8 → f i = true → g i = true) (hj : j < 8) (h1 : f j = false) (h2 : g j = true) : znc f + 1 ≤ znc g := by
  have m : ∀ i, i < 8 → zb01 (f i) ≤ zb01 (g i) := fun i hi => zb01_m (h i hi)
  have e1 : zb01 (f j) = 0 := by rw [h1]; rfl
  have e2 : zb01 (g j) = 1 := by rw [h2]; rfl
  unfold znc
  have m0 := m 0 (by omega); have m1 := m 1 (by omega); have m2 := m 2 (by omega); have m3 := m 3 (by omega)
  have m4 := m 4 (by omega); have m5 := m 5 (by omega); have m6 := m 6 (by omega); have m7 := m 7 (by omega)
  have c : j = 0 ∨ j = 1 ∨ j = 2 ∨ j = 3 ∨ j = 4 ∨ j = 5 ∨ j = 6 ∨ j = 7 := by omega
  rcases c with c | c | c | c | c | c | c | c <;> (rw [c] at e1 e2; omega)
theorem z9_m (hx : xit s N (0, []) = some (n, [])) : ∀ (r : Nat) (x : Int32 × Int32), 8 < znc (zbt x.1) + r → zL s N (zit9 (zL s N) r x).1 = zit9 (zL s N) r x := by
  intro r
  induction r with
  | zero =>
    intro x h
    have := znc_8 (f := zbt x.1)
    omega
  | succ r ih =>
    intro x h
    show zL s N (zit9 (zL s N) r (zL s N x.1)).1 = zit9 (zL s N) r (zL s N x.1)
    by_cases c : (zL s N x.1).1 = x.1
    · rw [zit_f c r, c]
    · refine ih (zL s N x.1) ?_
      have hm : ∀ i, zbt x.1 i = true → zbt (zL s N x.1).1 i = true := fun i hi => xlit_1 N 0 [] (x.1, [], -1) hi
      have hj : ∃ j, j < 8 ∧ zbt x.1 j = false ∧ zbt (zL s N x.1).1 j = true := by
        by_cases d : ∃ j, j < 8 ∧ zbt x.1 j = false ∧ zbt (zL s N x.1).1 j = true
        · exact d
        · exfalso
          refine c (i32_x (fun i => ?_))
          cases h1 : zbt x.1 i with
          | true => exact hm i h1
          | false =>
            cases h2 : zbt (zL s N x.1).1 i with
            | false => rfl
            | true =>
              rcases Nat.lt_or_ge i 8 with hi | hi
              · exact absurd ⟨i, hi, h1, h2⟩ d
              · have h3 : zbt (zL s N x.1).1 i = zbt x.1 i := xlit_u hi N 0 [] (x.1, [], -1) hx
                rw [h2, h1] at h3
                exact absurd h3 (by decide)
      obtain ⟨j, j1, j2, j3⟩ := hj
      have := znc_m (f := zbt x.1) (g := zbt (zL s N x.1).1) (fun i _ => hm i) j1 j2 j3
      omega
theorem z9_t (hx : xit s N (0, []) = some (n, [])) : zL s N (zit9 (zL s N) 9 (0, -1)).1 = zit9 (zL s N) 9 (0, -1) := z9_m hx 9 (0, -1) (by omega)
end YFX
