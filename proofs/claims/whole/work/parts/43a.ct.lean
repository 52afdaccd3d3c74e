/-! where the lanes are: the text's own way -/
/-- place, open blocks, mask, who came to each block, who waits there, the lanes -/
abbrev xCS : Type := Nat × xK × (Nat → Bool) × (Nat → Nat → Bool) × (Nat → Nat → Bool) × (Nat → xLD)
def zlv (B : Nat → Nat → Bool) (i : Nat) (g : Nat → Bool) : Nat → Nat → Bool := fun x => bif Nat.beq x i then g else B x
/-- the place behind a block that opens at the brace o -/
def zb1 (s : Nat → Int32) (o : Nat) : Nat := (xbh s 200 1 (o + 1)).getD 0
/-- the place behind a head's blocks -/
def zbe (s : Nat → Int32) (p : Nat) : Nat := bif decide (s p = 63) && decide (s (zb1 s (xE s (p + 1)).2) = 123) then zb1 s (zb1 s (xE s (p + 1)).2) else zb1 s (xE s (p + 1)).2
def zpo (s : Nat → Int32) (X : xCS) : xCS :=
  bif decide (s X.1 = 125) then
    (match X.2.1 with
    | [] => X
    | (h, m) :: k0 => bif Nat.beq m 1 && decide (s (X.1 + 1) = 123) then (X.1 + 2, (h, 2) :: k0, zgo (X.2.2.2.2.1 k0.length) X.2.2.2.2.2, X.2.2.2.1, X.2.2.2.2.1, X.2.2.2.2.2)
      else bif Nat.beq m 0 && !(znone X.2.2.1) then (h, k0, X.2.2.1, X.2.2.2.1, X.2.2.2.2.1, X.2.2.2.2.2)
      else (X.1 + 1, k0, zgo (X.2.2.2.1 k0.length) X.2.2.2.2.2, zlv X.2.2.2.1 k0.length (fun _ => false), X.2.2.2.2.1, X.2.2.2.2.2))
  else bif decide (s X.1 = 63) || decide (s X.1 = 42) then (zbe s X.1, X.2.1, X.2.2.1, X.2.2.2.1, X.2.2.2.2.1, X.2.2.2.2.2)
  else ((xst s X.1).2, X.2.1, X.2.2.1, X.2.2.2.1, X.2.2.2.2.1, X.2.2.2.2.2)
/-- at the end, or at a statement with lanes -/
def zsp (s : Nat → Int32) (n : Nat) (X : xCS) : Bool := Nat.ble n X.1 || (!(decide (s X.1 = 125)) && !(znone X.2.2.1))
def zwk (s : Nat → Int32) : Nat → xCS → xCS
  | 0, X => X
  | r + 1, X => zwk s r (zpo s X)
/-- the statement is done -/
def zsu (s : Nat → Int32) (n : Nat) (inp : Nat → Int32) (X : xCS) : xCS :=
  bif decide (s X.1 = 63) || decide (s X.1 = 42) then
    ((xns s X.1 X.2.1).2.1, (xns s X.1 X.2.1).2.2, zgo (fun x => X.2.2.1 x && !(decide ((zdc s n inp x X.1 (X.1 + 1) (X.2.2.2.2.2 x)).1 = 0))) (zup X.2.2.1 (fun x D => (zdc s n inp x X.1 (X.1 + 1) D).2) X.2.2.2.2.2 8), zlv X.2.2.2.1 X.2.1.length (fun x => X.2.2.2.1 X.2.1.length x || X.2.2.1 x), zlv X.2.2.2.2.1 X.2.1.length (fun x => X.2.2.1 x && !(X.2.2.1 x && !(decide ((zdc s n inp x X.1 (X.1 + 1) (X.2.2.2.2.2 x)).1 = 0)))), zup X.2.2.1 (fun x D => (zdc s n inp x X.1 (X.1 + 1) D).2) X.2.2.2.2.2 8)
  else bif decide (s X.1 = 88) then
    ((xns s X.1 X.2.1).2.1, (xns s X.1 X.2.1).2.2, zgo X.2.2.1 (zexc s n inp X.1 (s (X.1 + 1) - 97).toNatClampNeg (s (X.1 + 2) - 97).toNatClampNeg X.2.2.1 X.2.2.2.2.2), X.2.2.2.1, X.2.2.2.2.1, zexc s n inp X.1 (s (X.1 + 1) - 97).toNatClampNeg (s (X.1 + 2) - 97).toNatClampNeg X.2.2.1 X.2.2.2.2.2)
  else
    ((xns s X.1 X.2.1).2.1, (xns s X.1 X.2.1).2.2, zgo X.2.2.1 (zup X.2.2.1 (fun x => zac s n inp x X.1) X.2.2.2.2.2 8), X.2.2.2.1, X.2.2.2.2.1, zup X.2.2.1 (fun x => zac s n inp x X.1) X.2.2.2.2.2 8)
section ZCT
variable {s : Nat → Int32} {n m p q j e c o h r N : Nat} {k k0 : xK} {f : Nat → Bool} {B W : Nat → Nat → Bool} {DD : Nat → xLD} {X Y : xCS} {inp : Nat → Int32}
theorem zwk_a : ∀ (r t : Nat) (X : xCS), zwk s (r + t) X = zwk s t (zwk s r X)
  | 0, t, X => by rw [Nat.zero_add]; rfl
  | r + 1, t, X => by
    rw [show r + 1 + t = (r + t) + 1 by omega]
    exact zwk_a r t (zpo s X)
theorem zb1_t (hn : n ≤ 160) (h0 : ∀ j, n ≤ j → s j = 0) (hW : xR s n []) {b : Nat × Nat} (hR : xR s (o + 1) (b :: k0)) (ho : o < n) : ∃ c, o < c ∧ c < n ∧ s c = 125 ∧ xR s c (b :: k0) ∧ zb1 s o = c + 1 := by
  obtain ⟨c, q1, q2, q3, q4, f0, q5, q6⟩ := xskip h0 hW (n + 1) [] (o + 1) b k0 (by omega) hR
  refine ⟨c, by omega, q2, q3, q4, ?_⟩
  unfold zb1
  have h1 : xbh s 200 1 (o + 1) = some (c + 1) := by
    have h2 := q6 (200 - f0)
    rw [show 200 - f0 + f0 = 200 by omega] at h2
    exact h2
  rw [h1]
  rfl
/-- behind a head's blocks -/
theorem zbe_t (hn : n ≤ 160) (h0 : ∀ j, n ≤ j → s j = 0) (hW : xR s n []) (hR : xR s p k) (hs : s p = 63 ∨ s p = 42) (hE : xE s (p + 1) = (true, r)) (h4 : k.length < 4) (hr : s r = 123) : ∃ c m, p < c ∧ c < n ∧ s c = 125 ∧ xR s c ((p, m) :: k) ∧ ¬ (m = 1 ∧ s (c + 1) = 123) ∧ zbe s p = c + 1 ∧ xR s (c + 1) k := by
  obtain ⟨g1, g2, g3, g4⟩ := hd_f h0 hR hs hE h4 hr
  obtain ⟨c, c1, c2, c3, c4, c5⟩ := zb1_t hn h0 hW g4 g2
  unfold zbe
  rw [hE]
  show ∃ c' m, p < c' ∧ c' < n ∧ s c' = 125 ∧ xR s c' ((p, m) :: k) ∧ ¬ (m = 1 ∧ s (c' + 1) = 123) ∧ (bif decide (s p = 63) && decide (s (zb1 s r) = 123) then zb1 s (zb1 s r) else zb1 s r) = c' + 1 ∧ xR s (c' + 1) k
  rw [c5]
  by_cases d : s p = 63 ∧ s (c + 1) = 123
  · obtain ⟨d1, d2⟩ := d
    have d3 := lt_n h0 d2 (by decide)
    rw [decide_eq_true d1] at c4
    have c6 := xcl_e c3 rfl d2 c4
    obtain ⟨b, b1, b2, b3, b4, b5⟩ := zb1_t hn h0 hW c6 d3
    rw [decide_eq_true d1, decide_eq_true d2, b5]
    exact ⟨b, 2, by omega, b2, b3, b4, by omega, rfl, xcl_n b3 (by omega) b4⟩
  · have e1 : (decide (s p = 63) && decide (s (c + 1) = 123)) = false := by
      by_cases d1 : s p = 63
      · rw [decide_eq_false (fun z => d ⟨d1, z⟩), Bool.and_false]
      · rw [decide_eq_false d1, Bool.false_and]
    rw [e1]
    have hm : ¬ ((bif decide (s p = 63) then 1 else 0) = 1 ∧ s (c + 1) = 123) := fun q => by
      refine d ⟨?_, q.2⟩
      by_cases z : s p = 63
      · exact z
      · rw [decide_eq_false z] at q
        exact absurd q.1 (by decide)
    exact ⟨c, _, by omega, c2, c3, c4, hm, rfl, xcl_n c3 hm c4⟩
theorem ZN_t {a : Nat} {v u : pd_V} (hN : ZN s j a v) (hr : ∀ r, r < j → u (a + 4 + r) = v (a + 4 + r)) : ZN s j a u := by
  intro r e h m k0 q he h1 h2 h3
  have hre := hd_lt h1 h2
  obtain ⟨n1, n2, n3⟩ := hN r e h m k0 q he h1 h2 h3
  refine ⟨fun hf => ?_, fun hm => ?_, fun o p' hm ho hp' => ?_⟩
  · rw [hr r (by omega), hr e he]; exact n1 hf
  · rw [hr r (by omega)]; exact n2 hm
  · subst hm
    have := els_lt ho h2
    rw [hr o (by omega)]
    exact n3 o p' rfl ho hp'
end ZCT
