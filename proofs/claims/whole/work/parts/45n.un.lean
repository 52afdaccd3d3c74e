/-! the way that all lanes go, as far as it does not vary -/
abbrev xUS : Type := Nat × xK × (Nat → Int32)
def zue (inp E : Nat → Int32) : xEv := (E, inp, fun _ => 0, 0)
/-- where a head leads that is not entered first -/
def zel (s : Nat → Int32) (p : Nat) (k : xK) : Nat × xK := bif decide (s p = 63) && decide (s (zb1 s (xE s (p + 1)).2) = 123) then (zb1 s (xE s (p + 1)).2 + 1, (p, 2) :: k) else (zb1 s (xE s (p + 1)).2, k)
def ust (s : Nat → Int32) (n : Nat) (inp : Nat → Int32) (W : Int32) (U : xUS) : xUS :=
  bif decide (s U.1 = 125) then ((zlb s (U.1, U.2.1)).1, (zlb s (U.1, U.2.1)).2, U.2.2)
  else bif decide (s U.1 = 63) || decide (s U.1 = 42) then
    (bif vbl s W U.1 then (zbe s U.1, U.2.1, U.2.2)
    else (xw s n (zue inp U.2.2) (U.1 + 1)).elim U (fun x => bif decide (x = 0) then ((zel s U.1 U.2.1).1, (zel s U.1 U.2.1).2, U.2.2) else ((xns s U.1 U.2.1).2.1, (xns s U.1 U.2.1).2.2, U.2.2)))
  else bif xvar (s U.1) && !(zbt W (s U.1 - 97).toNatClampNeg) then (xw s n (zue inp U.2.2) (U.1 + 2)).elim U (fun x => ((xns s U.1 U.2.1).2.1, (xns s U.1 U.2.1).2.2, fun j => bif Nat.beq j (s U.1 - 97).toNatClampNeg then x else U.2.2 j))
  else ((xns s U.1 U.2.1).2.1, (xns s U.1 U.2.1).2.2, U.2.2)
def uit (s : Nat → Int32) (n : Nat) (inp : Nat → Int32) (W : Int32) (U0 : xUS) : Nat → xUS
  | 0 => U0
  | i + 1 => ust s n inp W (uit s n inp W U0 i)
/-- a lane stands at U, or in a block of it that varies -/
def URL (s : Nat → Int32) (W : Int32) (U : xUS) (p : Nat) (k : xK) (D : xLD) : Prop := (∀ j, j < 8 → zbt W j = false → D.1 j = U.2.2 j) ∧ ((zun (vbs s W k) = false ∧ U.1 = p ∧ U.2.1 = k) ∨ ∃ k1 h m k2, k = k1 ++ (h, m) :: k2 ∧ vbl s W h = true ∧ zun (vbs s W k2) = false ∧ U.1 = h ∧ U.2.1 = k2)
def URI (s : Nat → Int32) (n : Nat) (inp : Nat → Int32) (W : Int32) (U0 : xUS) (p : Nat) (k : xK) (D : xLD) : Prop := ∃ i, (∀ i', i' < i → s (uit s n inp W U0 i').1 ≠ 88) ∧ URL s W (uit s n inp W U0 i) p k D
section YUN
variable {s : Nat → Int32} {n m p p' q r c N i j l h : Nat} {W : Int32} {k k' k0 k1 k2 : xK} {inp : Nat → Int32} {D D' : xLD} {U U0 : xUS} {Y : xAS}
theorem zun_a : ∀ (k1 : xK), vbl s W h = true → zun (vbs s W (k1 ++ (h, m) :: k2)) = true
  | [], hv => by
    show (vbl s W h || zun (vbs s W k2)) = true
    rw [hv, Bool.true_or]
  | (a, b) :: k1, hv => by
    show (vbl s W a || zun (vbs s W (k1 ++ (h, m) :: k2))) = true
    rw [zun_a k1 hv, Bool.or_true]
theorem zun_c (hz : zun (vbs s W ((h, m) :: k)) = false) : vbl s W h = false ∧ zun (vbs s W k) = false := or_f hz
/-- the steps of the common way -/
theorem ust_b (hp : s U.1 = 125) : ust s n inp W U = ((zlb s (U.1, U.2.1)).1, (zlb s (U.1, U.2.1)).2, U.2.2) := by
  unfold ust
  rw [decide_eq_true hp]
  rfl
theorem hh_t (hs : s p = 63 ∨ s p = 42) : decide (s p = 125) = false ∧ (decide (s p = 63) || decide (s p = 42)) = true := by
  rcases hs with h | h
  · exact ⟨decide_eq_false (by rw [h]; decide), by rw [decide_eq_true h, Bool.true_or]⟩
  · exact ⟨decide_eq_false (by rw [h]; decide), by rw [decide_eq_true h, Bool.or_true]⟩
theorem ust_v (hs : s U.1 = 63 ∨ s U.1 = 42) (hv : vbl s W U.1 = true) : ust s n inp W U = (zbe s U.1, U.2.1, U.2.2) := by
  unfold ust
  rw [(hh_t hs).1, (hh_t hs).2, hv]
  rfl
theorem ust_h {x : Int32} (hs : s U.1 = 63 ∨ s U.1 = 42) (hv : vbl s W U.1 = false) (hx : xw s n (zue inp U.2.2) (U.1 + 1) = some x) : ust s n inp W U = (bif decide (x = 0) then ((zel s U.1 U.2.1).1, (zel s U.1 U.2.1).2, U.2.2) else ((xns s U.1 U.2.1).2.1, (xns s U.1 U.2.1).2.2, U.2.2)) := by
  unfold ust
  rw [(hh_t hs).1, (hh_t hs).2, hv, hx]
  rfl
theorem ust_g {x : Int32} (h1 : s U.1 ≠ 125) (h2 : s U.1 ≠ 63) (h3 : s U.1 ≠ 42) (hv : xvar (s U.1) = true) (hb : zbt W (s U.1 - 97).toNatClampNeg = false) (hx : xw s n (zue inp U.2.2) (U.1 + 2) = some x) : ust s n inp W U = ((xns s U.1 U.2.1).2.1, (xns s U.1 U.2.1).2.2, fun j => bif Nat.beq j (s U.1 - 97).toNatClampNeg then x else U.2.2 j) := by
  unfold ust
  rw [decide_eq_false h1, decide_eq_false h2, decide_eq_false h3, hv, hb, hx]
  rfl
theorem ust_n (h1 : s U.1 ≠ 125) (h2 : s U.1 ≠ 63) (h3 : s U.1 ≠ 42) (hv : (xvar (s U.1) && !(zbt W (s U.1 - 97).toNatClampNeg)) = false) : ust s n inp W U = ((xns s U.1 U.2.1).2.1, (xns s U.1 U.2.1).2.2, U.2.2) := by
  unfold ust
  rw [decide_eq_false h1, decide_eq_false h2, decide_eq_false h3, hv]
  rfl
/-- one step more of the common way -/
theorem URI_s (hi : ∀ i', i' < i → s (uit s n inp W U0 i').1 ≠ 88) (h8 : s (uit s n inp W U0 i).1 ≠ 88) (h : URL s W (ust s n inp W (uit s n inp W U0 i)) p k D) : URI s n inp W U0 p k D := ⟨i + 1, fun i' h' => by
  by_cases e : i' = i
  · rw [e]; exact h8
  · exact hi i' (by omega), h⟩
/-- behind a last brace stands what is behind the head -/
theorem zbe_b (hn : n ≤ 160) (h0 : ∀ j, n ≤ j → s j = 0) (hW : xR s n []) (hR : xR s p ((h, m) :: k0)) (hp : s p = 125) (hm : m ≠ 0) : zlb s (p, (h, m) :: k0) = (zbe s h, k0) := by
  obtain ⟨si1, si2, ⟨r, si3, si4⟩, si5, -⟩ := xR_SI hR
  have hs63 : s h = 63 := by
    rcases si2 with ⟨m0, -⟩ | ⟨-, t⟩
    · exact absurd m0 hm
    · exact t
  have hm12 : m = 1 ∨ m = 2 := by
    rcases si2 with ⟨m0, -⟩ | ⟨t, -⟩
    · exact absurd m0 hm
    · exact t
  obtain ⟨g1, g2, g3, g4⟩ := hd_f h0 si1 (Or.inl hs63) si3 si5 si4
  rw [decide_eq_true hs63] at g4
  rcases hm12 with e | e
  · subst e
    have e1 : zb1 s r = p + 1 := zb1_u hn h0 hW g4 g2 hp hR
    have eb : zbe s h = (bif decide (s (p + 1) = 123) then zb1 s (p + 1) else p + 1) := by
      unfold zbe
      rw [si3, decide_eq_true hs63]
      show (bif decide (s (zb1 s r) = 123) then zb1 s (zb1 s r) else zb1 s r) = _
      rw [e1]
    by_cases c : s (p + 1) = 123
    · rw [zlb_1 c, eb, decide_eq_true c]
      rfl
    · rw [zlb_n (by decide) (fun q => c q.2), eb, decide_eq_false c]
      rfl
  · subst e
    rw [zlb_n (by decide) (by omega)]
    obtain ⟨c, m', c1, c2, c3, c4, c5, c6, -⟩ := zbe_t hn h0 hW si1 (Or.inl hs63) si3 si5 si4
    obtain ⟨i, hi⟩ := hR
    obtain ⟨j, hj⟩ := c4
    have e2 : m' = 2 := by
      rcases hd_s hj with ⟨-, t⟩ | ⟨t | t, -⟩
      · rw [hs63] at t; exact absurd t (by decide)
      · exfalso
        subst t
        have l1 : j < i := els_lt hj hi
        have l2 := zuf hj c3 c5 hi l1
        exact l2 (h, 2) List.mem_cons_self rfl
      · exact t
    subst e2
    have ei := zuq hi hp hj c3
    rw [ei, hj] at hi
    have ec : c = p := congrArg Prod.fst (Option.some.inj hi)
    rw [c6, ec]
theorem URI_b (hn : n ≤ 160) (h0 : ∀ j, n ≤ j → s j = 0) (hW : xR s n []) (hR : xR s p k) (hp : s p = 125) (h : URI s n inp W U0 p k D) : URI s n inp W U0 (zlb s (p, k)).1 (zlb s (p, k)).2 D := by
  obtain ⟨hpn, hd, m, k0, ek⟩ := brk h0 hW hR hp
  subst ek
  have e2 : (zlb s (p, (hd, m) :: k0)).2 = k0 := by
    unfold zlb
    show (bif Nat.beq m 0 then (hd, k0) else bif Nat.beq m 1 && decide (s (p + 1) = 123) then (zb1 s (p + 1), k0) else (p + 1, k0) : Nat × xK).2 = k0
    cases Nat.beq m 0 with
    | true => rfl
    | false =>
      show (bif Nat.beq m 1 && decide (s (p + 1) = 123) then (zb1 s (p + 1), k0) else (p + 1, k0) : Nat × xK).2 = k0
      cases (Nat.beq m 1 && decide (s (p + 1) = 123)) <;> rfl
  obtain ⟨i, hi, hv, hc⟩ := h
  rcases hc with ⟨c1, c2, c3⟩ | ⟨k1, h, m', k2, c1, c2, c3, c4, c5⟩
  · refine URI_s hi (by rw [c2, hp]; decide) ?_
    rw [ust_b (by rw [c2]; exact hp), c2, c3]
    refine ⟨hv, Or.inl ⟨?_, rfl, rfl⟩⟩
    rw [e2]
    exact (zun_c c1).2
  · cases k1 with
    | nil =>
      have c1 : (hd, m) :: k0 = (h, m') :: k2 := c1
      have e := List.cons.inj c1
      have e3 : hd = h := congrArg Prod.fst e.1
      have e4 : m = m' := congrArg Prod.snd e.1
      have e5 : k0 = k2 := e.2
      subst e3 e4 e5
      by_cases m0 : m = 0
      · subst m0
        rw [zlb_0]
        exact ⟨i, hi, hv, Or.inl ⟨c3, c4, c5⟩⟩
      · have si := xR_SI hR
        have hs63 : s hd = 63 := by
          rcases si.2.1 with ⟨t, -⟩ | ⟨-, t⟩
          · exact absurd t m0
          · exact t
        rw [zbe_b hn h0 hW hR hp m0]
        refine URI_s hi (by rw [c4, hs63]; decide) ?_
        rw [ust_v (by rw [c4]; exact Or.inl hs63) (by rw [c4]; exact c2), c4, c5]
        exact ⟨hv, Or.inl ⟨c3, rfl, rfl⟩⟩
    | cons y k1 =>
      have c1 : (hd, m) :: k0 = y :: (k1 ++ (h, m') :: k2) := c1
      have e := List.cons.inj c1
      refine ⟨i, hi, hv, Or.inr ⟨k1, h, m', k2, ?_, c2, c3, c4, c5⟩⟩
      rw [e2]
      exact e.2
theorem URI_w (hn : n ≤ 160) (h0 : ∀ j, n ≤ j → s j = 0) (hW : xR s n []) : ∀ (d p : Nat) (k : xK), xR s p k → URI s n inp W U0 p k D → URI s n inp W U0 (zbw s d (p, k)).1 (zbw s d (p, k)).2 D := by
  intro d
  induction d with
  | zero => intro p k _ h; exact h
  | succ d ih =>
    intro p k hR h
    by_cases c : s p = 125
    · rw [zbw_s (x := (p, k)) c]
      exact ih (zlb s (p, k)).1 (zlb s (p, k)).2 (zlb_t hn h0 hW hR c).1 (URI_b hn h0 hW hR c h)
    · rw [zbw_e (x := (p, k)) c]
      exact h
theorem zun_b (hz : zun (vbs s W k) = false) : zun (vbs s W (zlb s (p, k)).2) = false := by
  cases k with
  | nil => exact hz
  | cons y k0 =>
    obtain ⟨hd, m⟩ := y
    have e2 : (zlb s (p, (hd, m) :: k0)).2 = k0 := by
      unfold zlb
      show (bif Nat.beq m 0 then (hd, k0) else bif Nat.beq m 1 && decide (s (p + 1) = 123) then (zb1 s (p + 1), k0) else (p + 1, k0) : Nat × xK).2 = k0
      cases Nat.beq m 0 with
      | true => rfl
      | false =>
        show (bif Nat.beq m 1 && decide (s (p + 1) = 123) then (zb1 s (p + 1), k0) else (p + 1, k0) : Nat × xK).2 = k0
        cases (Nat.beq m 1 && decide (s (p + 1) = 123)) <;> rfl
    rw [e2]
    exact (zun_c hz).2
theorem zun_w : ∀ (d : Nat) (x : Nat × xK), zun (vbs s W x.2) = false → zun (vbs s W (zbw s d x).2) = false := by
  intro d
  induction d with
  | zero => intro x h; exact h
  | succ d ih =>
    intro x h
    by_cases c : s x.1 = 125
    · rw [zbw_s c]
      exact ih (zlb s x) (zun_b (p := x.1) (k := x.2) h)
    · rw [zbw_e c]
      exact h
end YUN
