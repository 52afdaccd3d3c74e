/-! the class's run, statement after statement -/
section ZRC
variable {s : Nat → Int32} {n m w p q j e c o h r N i1 a b l : Nat} {k k0 : xK} {X Y X0 : xCS} {inp : Nat → Int32} {v u t : pd_V} {x y : Int32} {DD : Nat → xLD} {f : Nat → Bool} {D : xLD}
theorem cnt_d {p1 : Nat} : (zdc s n inp l p p1 D).2.2.2.2.1 = D.2.2.2.1 := by
  unfold zdc
  cases xw s n (zev inp l D) p1 <;> rfl
theorem cnt_a : (zac s n inp l p D).2.2.2.1 ≤ D.2.2.2.1 + 1 := by
  have zt : (ztr p D).2.2.2.1 = D.2.2.2.1 := rfl
  unfold zac
  cases decide (s p = 82) with
  | true => exact Nat.le_succ _
  | false =>
    cases decide (s p = 79) with
    | true =>
      show ((xw s n (zev inp l D) (p + 1)).elim (ztr p D) (fun x => zpt x D)).2.2.2.1 ≤ _
      cases xw s n (zev inp l D) (p + 1) with
      | none => exact Nat.le_succ _
      | some x => exact Nat.le_refl _
    | false =>
      cases decide (s p = 76) with
      | true =>
        show ((xw s n (zev inp l D) (p + 2)).elim (ztr p D) (fun i => (xw s n (zev inp l D) ((xp s 3 200 (p + 2) [] true).2 + 2)).elim (ztr p D) (fun x => bif decide (d_Mo_beyond i 0 7 = 0) then zsc i.toNatClampNeg x D else ztr p D))).2.2.2.1 ≤ _
        cases xw s n (zev inp l D) (p + 2) with
        | none => exact Nat.le_succ _
        | some i =>
          show ((xw s n (zev inp l D) ((xp s 3 200 (p + 2) [] true).2 + 2)).elim (ztr p D) (fun x => bif decide (d_Mo_beyond i 0 7 = 0) then zsc i.toNatClampNeg x D else ztr p D)).2.2.2.1 ≤ _
          cases xw s n (zev inp l D) ((xp s 3 200 (p + 2) [] true).2 + 2) with
          | none => exact Nat.le_succ _
          | some x =>
            show (bif decide (d_Mo_beyond i 0 7 = 0) then zsc i.toNatClampNeg x D else ztr p D).2.2.2.1 ≤ _
            cases decide (d_Mo_beyond i 0 7 = 0) <;> exact Nat.le_succ _
      | false =>
        show ((xw s n (zev inp l D) (p + 2)).elim (ztr p D) (fun x => zsv (s p - 97).toNatClampNeg x D)).2.2.2.1 ≤ _
        cases xw s n (zev inp l D) (p + 2) with
        | none => exact Nat.le_succ _
        | some x => exact Nat.le_succ _
theorem cnt_u {g : Nat → xLD → xLD} {d : Nat} (hg : ∀ D, (g l D).2.2.2.1 ≤ D.2.2.2.1 + d) {z : Nat} : (zup f g DD z l).2.2.2.1 ≤ (DD l).2.2.2.1 + d := by
  unfold zup
  cases (Nat.blt l z && f l) with
  | true => exact hg (DD l)
  | false => exact Nat.le_add_right _ _
theorem cnt_s : ((zsu s n inp X).2.2.2.2.2 l).2.2.2.1 ≤ (X.2.2.2.2.2 l).2.2.2.1 + 1 := by
  have dc : ∀ p1, ∀ D : xLD, (zdc s n inp l X.1 p1 D).2.2.2.2.1 ≤ D.2.2.2.1 + 0 := fun p1 D => by rw [cnt_d]; exact Nat.le_refl _
  unfold zsu
  cases (decide (s X.1 = 63) || decide (s X.1 = 42)) with
  | true =>
    have := cnt_u (l := l) (f := X.2.2.1) (DD := X.2.2.2.2.2) (g := fun x D => (zdc s n inp x X.1 (X.1 + 1) D).2) (z := 8) (d := 0) (dc (X.1 + 1))
    exact Nat.le_trans this (Nat.le_succ _)
  | false =>
    cases decide (s X.1 = 88) with
    | true =>
      have h1 := cnt_u (l := l) (f := X.2.2.1) (DD := X.2.2.2.2.2) (g := fun x D => (zdc s n inp x X.1 (X.1 + 3) D).2) (z := 8) (d := 0) (dc (X.1 + 3))
      show (zexc s n inp X.1 (s (X.1 + 1) - 97).toNatClampNeg (s (X.1 + 2) - 97).toNatClampNeg X.2.2.1 X.2.2.2.2.2 l).2.2.2.1 ≤ _
      unfold zexc
      refine Nat.le_trans (cnt_u (d := 0) (fun D => Nat.le_refl _)) ?_
      exact Nat.le_trans h1 (Nat.le_succ _)
    | false => exact cnt_u (l := l) (f := X.2.2.1) (DD := X.2.2.2.2.2) (g := fun x => zac s n inp x X.1) (z := 8) (d := 1) (fun D => cnt_a)
theorem dd_p : (zpo s X).2.2.2.2.2 = X.2.2.2.2.2 := by
  unfold zpo
  cases decide (s X.1 = 125) with
  | true =>
    show (match X.2.1 with | [] => X | (h, m) :: k0 => _ : xCS).2.2.2.2.2 = _
    cases X.2.1 with
    | nil => rfl
    | cons y k0 =>
      obtain ⟨h, m⟩ := y
      show (bif Nat.beq m 1 && decide (s (X.1 + 1) = 123) then _ else bif Nat.beq m 0 && !(znone X.2.2.1) then _ else _ : xCS).2.2.2.2.2 = _
      cases (Nat.beq m 1 && decide (s (X.1 + 1) = 123)) with
      | true => rfl
      | false => cases (Nat.beq m 0 && !(znone X.2.2.1)) <;> rfl
  | false => cases (decide (s X.1 = 63) || decide (s X.1 = 42)) <;> rfl
theorem dd_f : ∀ (d : Nat) (X : xCS), (zfin s n d X).2.2.2.2.2 = X.2.2.2.2.2
  | 0, _ => rfl
  | d + 1, X => by
    show (bif zsp s n X then X else zfin s n d (zpo s X)).2.2.2.2.2 = _
    cases zsp s n X with
    | true => rfl
    | false => exact (dd_f d (zpo s X)).trans dd_p
theorem zT_s (i : Nat) : zT s n inp X0 (i + 1) = (bif Nat.ble n (zT s n inp X0 i).1.1 then zT s n inp X0 i else (zfin s n 82 (zsu s n inp (zT s n inp X0 i).1), (zT s n inp X0 i).2.1 + 1, (zT s n inp X0 i).2.2 + zpc (zT s n inp X0 i).1.2.2.1)) := rfl
theorem cnt_T : ∀ (i : Nat), ((zT s n inp X0 i).1.2.2.2.2.2 l).2.2.2.1 ≤ (X0.2.2.2.2.2 l).2.2.2.1 + i
  | 0 => by
    show ((zfin s n 82 X0).2.2.2.2.2 l).2.2.2.1 ≤ _
    rw [dd_f]
    exact Nat.le_refl _
  | i + 1 => by
    have ih := cnt_T i
    rw [zT_s]
    cases Nat.ble n (zT s n inp X0 i).1.1 with
    | true => exact Nat.le_trans ih (by omega)
    | false =>
      show ((zfin s n 82 (zsu s n inp (zT s n inp X0 i).1)).2.2.2.2.2 l).2.2.2.1 ≤ _
      rw [dd_f]
      have := cnt_s (s := s) (n := n) (inp := inp) (X := (zT s n inp X0 i).1) (l := l)
      omega
theorem zT_o (h : n ≤ (zT s n inp X0 r).1.1) : ∀ d, zT s n inp X0 (r + d) = zT s n inp X0 r
  | 0 => rfl
  | d + 1 => by
    have ih := zT_o h d
    rw [← Nat.add_assoc, zT_s, ih, ble_t h]
    rfl
/-- a statement leads on through the text -/
theorem zsu_v (h0 : ∀ j, n ≤ j → s j = 0) (hx : xit s N (0, []) = some (n, [])) (hV : zVL s N j X) (hp : X.1 < n) : zVL s N (j + 1) (zsu s n inp X) ∧ j < N ∧ ∃ p' k', xit s (j + 1) (0, []) = some (p', k') := by
  have up := xit_up1 h0 hx hV.1
  have hj := up.2.mpr hp
  obtain ⟨p', k', ns⟩ : ∃ p' k', xns s X.1 X.2.1 = (true, p', k') := by
    have h1 := xit_sp hV.1 hx (by omega)
    rw [show N - j = (N - j - 1) + 1 by omega] at h1
    obtain ⟨p1, k1, ns, -⟩ := xit_rr h1
    exact ⟨p1, k1, ns⟩
  have hx1 := xit_s hV.1 ns
  refine ⟨⟨?_, by omega⟩, hj, p', k', hx1⟩
  have e1 : (zsu s n inp X).1 = p' ∧ (zsu s n inp X).2.1 = k' := by
    unfold zsu
    rw [ns]
    cases (decide (s X.1 = 63) || decide (s X.1 = 42)) with
    | true => exact ⟨rfl, rfl⟩
    | false => cases decide (s X.1 = 88) <;> exact ⟨rfl, rfl⟩
  rw [e1.1, e1.2]
  exact hx1
theorem zfin_v (hn : n ≤ 160) (h0 : ∀ j, n ≤ j → s j = 0) (hN : N ≤ 80) (hx : xit s N (0, []) = some (n, [])) (hV : zVL s N j X) : ∃ j', zVL s N j' (zfin s n 82 X) ∧ zsp s n (zfin s n 82 X) = true := by
  obtain ⟨r, j', r1, r2, r3, r4⟩ := zNX hn h0 hx N j X hV (by omega)
  rw [zfin_w r 82 X (by omega) r2 r3]
  exact ⟨j', r4, r3⟩
theorem zT_v (hn : n ≤ 160) (h0 : ∀ j, n ≤ j → s j = 0) (hN : N ≤ 80) (hx : xit s N (0, []) = some (n, [])) (hV : zVL s N 0 X0) : ∀ i, ∃ j, zVL s N j (zT s n inp X0 i).1 ∧ zsp s n (zT s n inp X0 i).1 = true := by
  intro i
  induction i with
  | zero => exact zfin_v hn h0 hN hx hV
  | succ i ih =>
    obtain ⟨j, j1, j2⟩ := ih
    rw [zT_s]
    by_cases c : n ≤ (zT s n inp X0 i).1.1
    · rw [ble_t c]
      exact ⟨j, j1, j2⟩
    · rw [ble_f c]
      exact zfin_v hn h0 hN hx (zsu_v h0 hx j1 (by omega)).1
def RUNC (s : Nat → Int32) (n N i1 a : Nat) (inp : Nat → Int32) (X0 : xCS) (i : Nat) (v : pd_V) : Prop := KNL s n N i1 a v ∧ v 173 4 = (zT s n inp X0 i).2.1 ∧ v 173 5 = (zT s n inp X0 i).2.2 ∧ ((n ≤ (zT s n inp X0 i).1.1 ∧ v 173 2 = 1 ∧ v 173 3 = 0 ∧ CRS 174 inp (zT s n inp X0 i).1.2.2.2.2.2 v) ∨ ((zT s n inp X0 i).1.1 < n ∧ v 173 2 = 0 ∧ ∃ j, TSt s inp j (zT s n inp X0 i).1 v))
theorem zgn_m (hw : 4294967296 < w) (hn : n ≤ 160) (h0 : ∀ j, n ≤ j → s j = 0) (ha : ker a) (hN : N ≤ 80) (hi1 : i1 ≤ 160) (hx : xit s N (0, []) = some (n, [])) (hV : zVL s N 0 X0) (hc0 : ∀ x, (X0.2.2.2.2.2 x).2.2.2.1 = 0) : ∀ (q i : Nat) (v : pd_V) (F : Nat), q ≤ 1000 → i + q ≤ 1000000 → RUNC s n N i1 a inp X0 i v → Pf (d_To_goOn_2 w F a (Int32.ofNat q) v) (fun u => RUNC s n N i1 a inp X0 (i + q) u ∧ (∀ d, d < 173 → u d = v d) ∧ u 173 1 = v 173 1) := by
  have pa : a = 3 ∨ a = 88 := ha
  intro q
  induction q with
  | zero =>
    intro i v F _ _ hR
    cases F with
    | zero => rw [d_To_goOn_2]; exact pf_none
    | succ F =>
      rw [d_To_goOn_2, le0 (by omega), decide_eq_true (Nat.le_refl 0)]
      exact pf_t (pf_some ⟨hR, fun _ _ => rfl, rfl⟩)
  | succ q ih =>
    intro i v F hq hi hR
    cases F with
    | zero => rw [d_To_goOn_2]; exact pf_none
    | succ F =>
      rw [d_To_goOn_2, le0 hq, decide_eq_false (show ¬ q + 1 ≤ 0 by omega), ofNm]
      refine pf_f ?_
      obtain ⟨rK, r4, r5, rc⟩ := id hR
      rcases rc with ⟨o1, o2, o3, o4⟩ | ⟨o1, o2, j, hT⟩
      · refine pf_n (fun _ => pf_some ⟨?_, fun _ _ => rfl, rfl⟩) (fun z => absurd (o2.symm.trans z) (by decide))
        unfold RUNC
        rw [zT_o o1 (q + 1)]
        exact hR
      · refine pf_n (fun z => absurd o2 z) (fun _ => ?_)
        obtain ⟨j2, hv1, hz1⟩ := zT_v (inp := inp) hn h0 hN hx hV i
        have hvj : zVL s N j (zT s n inp X0 i).1 := ⟨hT.1, (xit_up1 h0 hx hT.1).1⟩
        obtain ⟨su1, hj, su3⟩ := zsu_v (inp := inp) h0 hx hvj o1
        have n125 : ¬ (s (zT s n inp X0 i).1.1 = 125 ∧ (zT s n inp X0 i).1.2.1 ≠ []) := by
          intro z
          have hz' : (Nat.ble n (zT s n inp X0 i).1.1 || (!(decide (s (zT s n inp X0 i).1.1 = 125)) && !(znone (zT s n inp X0 i).1.2.2.1))) = true := hz1
          rw [ble_f (by omega), decide_eq_true z.1] at hz'
          have hz2 : false = true := hz'
          exact absurd hz2 (by decide)
        rw [hT.2.1, zsa (show j < 80 by omega)]
        refine pf_sb ?_
        refine pf_bind (pf_and (pf_sf (t_To_issue (v := v) hw ha (show stp (a + 4 + j) by unfold stp; omega))) (zsu_t hw hn h0 ha hN hi1 hj su3 rK hT n125 (fun x _ => by
          have := cnt_T (s := s) (n := n) (inp := inp) (X0 := X0) (l := x) i
          rw [hc0 x] at this
          omega))) (fun q4 h4 => ?_)
        obtain ⟨f4, t4, c4, c5, c1, c2⟩ := h4
        have fr4 : ∀ d, d < 173 → q4 d = v d := fun d hd => f4 d (by omega)
        have K4 := KNL_q ha hN rK (fun d hd => fr4 d (by omega))
        obtain ⟨mv, -⟩ := zmo_t (w := w) hn h0 ha hN hx K4 t4
        refine pf_bind mv (fun q5 h5 => ?_)
        obtain ⟨m1, ⟨m2, m3, m4⟩, m5⟩ := h5
        have hT1 : zT s n inp X0 (i + 1) = (zfin s n 82 (zsu s n inp (zT s n inp X0 i).1), (zT s n inp X0 i).2.1 + 1, (zT s n inp X0 i).2.2 + zpc (zT s n inp X0 i).1.2.2.1) := by
          rw [zT_s, ble_f (by omega)]
          rfl
        have R1 : RUNC s n N i1 a inp X0 (i + 1) q5 := by
          unfold RUNC
          rw [hT1]
          refine ⟨KNL_q ha hN K4 (fun d hd => m1 d (by omega)), by rw [m3, c4, r4], by rw [m4, c5, r5], ?_⟩
          rcases m5 with m5 | ⟨y1, y2, y3⟩
          · exact Or.inl m5
          · exact Or.inr ⟨y1, by rw [y2, c2]; exact o2, y3⟩
        refine pf_mono (ih (i + 1) q5 F (by omega) (by omega) R1) (fun u hu => ⟨?_, fun d hd => (hu.2.1 d hd).trans ((m1 d hd).trans (fr4 d hd)), hu.2.2.trans (m2.trans c1)⟩)
        rw [show i + (q + 1) = i + 1 + q by omega]
        exact hu.1
end ZRC
