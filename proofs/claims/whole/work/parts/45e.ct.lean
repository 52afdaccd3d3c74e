/-! the class's exchange, and its rounds to the end -/
section YCT
variable {s : Nat → Int32} {n m w p p' q j e c o h r N i1 a b l z d L : Nat} {k k' k0 : xK} {inp : Nat → Int32} {D : xLD} {v u t : pd_V} {x y M : Int32} {Y YY : Nat → xAS} {f g : Nat → Bool}
theorem mk_up (hl : l < 8) (hg : g l = true) (h : MK8 (fun x => Nat.blt x l && g x) M) : MK8 (fun x => Nat.blt x (l + 1) && g x) (M ||| ((1 : Int32) <<< (Int32.ofNat l &&& 31))) := MK8_e (MK8_s h hl) (fun j hj => by
  show (Nat.blt j (l + 1) && g j) = ((Nat.blt j l && g j) || Nat.beq j l)
  by_cases e : j = l
  · rw [e, blt_t (Nat.lt_succ_self l), hg, blt_f (Nat.lt_irrefl l), Nat.beq_refl]
    rfl
  · rw [beq_f e, Bool.or_false]
    by_cases c : j < l
    · rw [blt_t (show j < l + 1 by omega), blt_t c]
    · rw [blt_f (show ¬ j < l + 1 by omega), blt_f c])
theorem mk_no (hg : g l = false) (h : MK8 (fun x => Nat.blt x l && g x) M) : MK8 (fun x => Nat.blt x (l + 1) && g x) M := MK8_e h (fun j hj => by
  show (Nat.blt j (l + 1) && g j) = (Nat.blt j l && g j)
  by_cases e : j = l
  · rw [e, hg, Bool.and_false, Bool.and_false]
  · by_cases c : j < l
    · rw [blt_t (show j < l + 1 by omega), blt_t c]
    · rw [blt_f (show ¬ j < l + 1 by omega), blt_f c])
theorem mk_8 (h : MK8 (fun x => Nat.blt x 8 && g x) M) : MK8 g M := MK8_e h (fun j hj => by
  show g j = (Nat.blt j 8 && g j)
  rw [blt_t hj, Bool.true_and])
theorem mk_0 : MK8 (fun x => Nat.blt x 0 && g x) 0 := MK8_e MK8_0 (fun j _ => by
  show (Nat.blt j 0 && g j) = false
  rw [blt_f (Nat.not_lt_zero j), Bool.false_and])
theorem ylx_m (h0 : ∀ j, n ≤ j → s j = 0) (hn : n ≤ 160) (hN : N ≤ 80) (hx : xit s N (0, []) = some (n, [])) (hK : KNL s n N i1 a v) (hC : CAP s inp Y v) : ∀ (F l : Nat) (z : Int32), l ≤ 8 → MK8 (fun x => Nat.blt x l && zax n Y x) z → Pf (d_Ap_lanesAtX_4 w F a z (Int32.ofNat l) v) (MK8 (zax n Y)) := by
  intro F
  induction F with
  | zero => intro l z _ _; rw [d_Ap_lanesAtX_4]; exact pf_none
  | succ F ih =>
    intro l z hl hz
    rw [d_Ap_lanesAtX_4, decide_eq_decide.mpr (lane8 hl)]
    refine pf_d (fun c => ?_) (fun c => ?_)
    · have e : l = 8 := by omega
      subst e
      exact pf_some (mk_8 hz)
    · have hl' : l < 8 := by omega
      obtain ⟨⟨j, hj, h7⟩, hD⟩ := hC.2 l hl'
      have up := xit_up1 h0 hx hj
      have e1 : decide (d_De_isIn (v 187 10) (Int32.ofNat l) = 0) = !((Y l).2.2.2.2.2.2.2) := by
        rw [isIn_b hl', hD.2.2.2.2.2]
        cases (Y l).2.2.2.2.2.2.2 <;> rfl
      rw [e1, Bool.not_not, ofN1 l, cl_nat (show l ≤ 1000 by omega), h7, hK.1, leB (by omega) (by omega)]
      cases hst : (Y l).2.2.2.2.2.2.2 with
      | true =>
        refine pf_t (ih (l + 1) z (by omega) (mk_no ?_ hz))
        show (!((Y l).2.2.2.2.2.2.2) && Nat.blt (Y l).1 n) = false
        rw [hst]
        rfl
      | false =>
        refine pf_f (pf_c (fun _ => pf_d (fun c2 => ?_) (fun c2 => ?_)))
        · refine ih (l + 1) z (by omega) (mk_no ?_ hz)
          show (!((Y l).2.2.2.2.2.2.2) && Nat.blt (Y l).1 n) = false
          rw [blt_f (show ¬ (Y l).1 < n by omega), Bool.and_false]
        · refine ih (l + 1) _ (by omega) (mk_up hl' ?_ hz)
          show (!((Y l).2.2.2.2.2.2.2) && Nat.blt (Y l).1 n) = true
          rw [hst, blt_t (show (Y l).1 < n from up.2.mp (by omega))]
          rfl
theorem zax_x (hh : ∀ l, l < 8 → zhl s n (Y l) = true) (hl : l < 8) (hf : zax n Y l = true) : (Y l).2.2.2.2.2.2.2 = false ∧ (Y l).1 < n ∧ s (Y l).1 = 88 := by
  unfold zax at hf
  obtain ⟨h1, h2⟩ := and_c hf
  have h3 : (Y l).1 < n := Nat.lt_of_lt_of_le (Nat.lt_succ_self _) (Nat.le_of_ble_eq_true h2)
  have h4 : (Y l).2.2.2.2.2.2.2 = false := by
    cases hs : (Y l).2.2.2.2.2.2.2 with
    | false => rfl
    | true => rw [hs] at h1; exact absurd h1 (by decide)
  refine ⟨h4, h3, ?_⟩
  rcases zhl_t (hh l hl) with t | t | t
  · rw [h4] at t; exact absurd t (by decide)
  · omega
  · exact t
/-- the exchange -/
theorem yxc_m (hw : 4294967296 < w) (hn : n ≤ 160) (h0 : ∀ j, n ≤ j → s j = 0) (ha : ker a) (hN : N ≤ 80) (hi1 : i1 ≤ 160) (hx : xit s N (0, []) = some (n, [])) (hM : MK8 (zax n Y) M) (hne : znone (zax n Y) = false) (hh : ∀ l, l < 8 → zhl s n (Y l) = true) : ∀ (F l : Nat) (row : Int32) (v : pd_V), l ≤ 8 → KNL s n N i1 a v → CIN 187 inp v → (∀ x, x < 8 → CRL 187 x (Y x).2.2 v) → (∀ x, x < 8 → ∃ j, v 197 x = Int32.ofNat j ∧ xit s j (0, []) = (bif Nat.blt x l && zax n Y x then some (zbw s 200 (xns s (Y x).1 (Y x).2.1).2) else some ((Y x).1, (Y x).2.1))) → ((∃ j, row = Int32.ofNat j ∧ zax n Y (zlx (zax n Y) l) = true ∧ zlx (zax n Y) l < 8 ∧ xit s j (0, []) = some ((Y (zlx (zax n Y) l)).1, (Y (zlx (zax n Y) l)).2.1)) ∨ ∀ i, i < l → zax n Y i = false) → Pf (d_Ap_exchange_5 w F a M row (Int32.ofNat l) v) (fun q => CAP s inp (zae s n inp Y) q ∧ q 186 = v 186 ∧ (∀ d, d < 186 → q d = v d)) := by
  have pa : a = 3 ∨ a = 88 := ha
  intro F
  induction F with
  | zero => intro l row v _ _ _ _ _ _; rw [d_Ap_exchange_5]; exact pf_none
  | succ F ih =>
    intro l row v hl hK hin hD h7 hrow
    rw [d_Ap_exchange_5, decide_eq_decide.mpr (lane8 hl)]
    refine pf_d (fun c => ?_) (fun c => ?_)
    · have e : l = 8 := by omega
      subst e
      rcases hrow with ⟨jr, e1, e2, e3, e4⟩ | hno
      · obtain ⟨-, x2, x3⟩ := zax_x hh e3 e2
        have up := xit_up1 h0 hx e4
        have hjN : jr < N := up.2.mpr x2
        rw [e1, zsa (show jr < 80 by omega)]
        refine pf_sb ?_
        obtain ⟨p', k', ns, -⟩ := xit_nx hx h0 e4 x2
        have hR : ZR s n a (a + 4 + jr) (Y (zlx (zax n Y) 8)).1 (Y (zlx (zax n Y) 8)).2.1.length i1 v := by
          rcases yrow hK hjN e4 with ⟨-, h⟩ | ⟨h, -⟩
          · exact h
          · rw [x3] at h; exact absurd h (by decide)
        generalize hp : (Y (zlx (zax n Y) 8)).1 = px at *
        obtain ⟨z0, z1, z2, z3⟩ := hR
        obtain ⟨z5, z6, e0, zE, zW⟩ : v (a + 4 + jr) 5 = s (px + 1) - 97 ∧ v (a + 4 + jr) 6 = s (px + 2) - 97 ∧ ∃ e, xE s (px + 3) = (true, e) ∧ ZW s n a (a + 4 + jr) (px + 3) e i1 v := by
          rcases z3 with ⟨g, -⟩ | g | ⟨g, -⟩ | ⟨-, g⟩ | ⟨g, -⟩ | ⟨g | g, -⟩
          · rw [x3] at g; exact absurd g (by decide)
          · rw [x3] at g; exact absurd g (by decide)
          · rw [x3] at g; exact absurd g (by decide)
          · exact g
          · exact absurd x3 (xvar_x g 88 (by decide))
          · rw [x3] at g; exact absurd g (by decide)
          · rw [x3] at g; exact absurd g (by decide)
        obtain ⟨xv1, xv2, hes, hen⟩ : xvar (s (px + 1)) = true ∧ xvar (s (px + 2)) = true ∧ xsgn (s e0) = false ∧ e0 ≤ n := by
          rcases xns_c ns with ⟨t, -⟩ | ⟨t | t, -⟩ | ⟨e1, -, -, g3, -, -, g6⟩
          · rw [x3] at t; exact absurd t (by decide)
          · rw [x3] at t; exact absurd t (by decide)
          · rw [x3] at t; exact absurd t (by decide)
          · rcases g6 with ⟨t, -⟩ | ⟨t, -⟩ | ⟨t, -⟩ | ⟨-, a1, a2, a3⟩ | ⟨t, -⟩
            · rw [x3] at t; exact absurd t (by decide)
            · rw [x3] at t; exact absurd t (by decide)
            · rw [x3] at t; exact absurd t (by decide)
            · rw [zE] at a3
              have ee : e0 = e1 := congrArg Prod.snd a3
              rw [ee]
              have := lt_n h0 g3 (by decide)
              exact ⟨a1, a2, sgn_59 g3, by omega⟩
            · exact absurd x3 (xvar_x t 88 (by decide))
        obtain ⟨iv, hiv, ev⟩ := vcaseN xv1
        obtain ⟨iw, hiw, ew⟩ := vcaseN xv2
        have hb : stp (a + 4 + jr) := by unfold stp; omega
        have ex : Pf (d_Cr_exchange w 187 a (a + 4 + jr) M v) (CRS 187 inp (zexc s n inp px iv iw (zax n Y) (fun l => (Y l).2.2))) := by
          unfold d_Cr_exchange
          exact zxc_m (f := zax n Y) (DD := fun l => (Y l).2.2) hw hn ha crw_187 ⟨rfl, by omega⟩ hi1 hen hes hiv hiw hM w 0 v (by omega) z1 (by rw [z5, ev]) (by rw [z6, ew]) zW (by rw [zup_0]; exact ⟨hin, hD⟩) (fun x hx _ => absurd hx (Nat.not_lt_zero _))
        refine pf_bind (pf_and (pf_sf (t_Cr_exchange (v := v) (l3 := M) hw crw_187 ha hb)) ex) (fun q3 h3 => pf_some ?_)
        obtain ⟨fr, cr⟩ := h3
        have fr : ∀ d, (d < 187 ∨ 197 ≤ d) → q3 d = v d := fun d hd => fr.1 d (by omega)
        refine ⟨⟨cr.1, fun x hx' => ?_⟩, fr 186 (by omega), fun d hd => fr d (by omega)⟩
        obtain ⟨j', y1, y2⟩ := h7 x hx'
        rw [blt_t hx', Bool.true_and] at y2
        have cx := cr.2 x hx'
        unfold zae
        rw [hp, ev, ew, cl_nat (show iv ≤ 1000 by omega), cl_nat (show iw ≤ 1000 by omega)]
        cases hf : zax n Y x with
        | true =>
          rw [hf] at y2
          exact ⟨⟨j', y2, by rw [fr 197 (by omega)]; exact y1⟩, cx⟩
        | false =>
          rw [hf] at y2
          exact ⟨⟨j', y2, by rw [fr 197 (by omega)]; exact y1⟩, cx⟩
      · obtain ⟨i, hi, hf⟩ := znone_x hne
        rw [hno i hi] at hf
        exact absurd hf (by decide)
    · have hl' : l < 8 := by omega
      rw [MK8_i hM hl', ofN1 l]
      cases hf : zax n Y l with
      | false =>
        refine pf_t (ih (l + 1) row v (by omega) hK hin hD (fun x hx' => ?_) ?_)
        · obtain ⟨j', y1, y2⟩ := h7 x hx'
          refine ⟨j', y1, ?_⟩
          rw [y2]
          by_cases e : x = l
          · rw [e, hf, Bool.and_false, Bool.and_false]
          · by_cases c2 : x < l
            · rw [blt_t c2, blt_t (show x < l + 1 by omega)]
            · rw [blt_f c2, blt_f (show ¬ x < l + 1 by omega)]
        · have ez : zlx (zax n Y) (l + 1) = zlx (zax n Y) l := by
            show (bif zax n Y l then l else zlx (zax n Y) l) = _
            rw [hf]
            rfl
          rcases hrow with h | h
          · left
            rw [ez]
            exact h
          · right
            intro i hi
            by_cases e : i = l
            · rw [e]; exact hf
            · exact h i (by omega)
      | true =>
        refine pf_f (pf_c (fun _ => ?_))
        obtain ⟨j, y1, y2⟩ := h7 l hl'
        rw [blt_f (Nat.lt_irrefl l), Bool.false_and] at y2
        have y2 : xit s j (0, []) = some ((Y l).1, (Y l).2.1) := y2
        obtain ⟨-, x2, x3⟩ := zax_x hh hl' hf
        obtain ⟨p', k', ns, hj1⟩ := xit_nx hx h0 y2 x2
        rw [cl_nat (show l ≤ 1000 by omega), y1, ofN1 j]
        refine pf_bind (ybb_t hn h0 hN hx hK hj1) (fun q7 h7' => pf_c (fun _ => ?_))
        obtain ⟨j7, w1, w2⟩ := h7'
        rw [w1]
        have ez : zlx (zax n Y) (l + 1) = l := by
          show (bif zax n Y l then l else zlx (zax n Y) l) = _
          rw [hf]
          rfl
        refine pf_mono (ih (l + 1) (Int32.ofNat j) (pd_w v 197 l (Int32.ofNat j7)) (by omega) (KNL_q ha hN hK (fun d hd => by rw [pd_wa (by omega)])) (fun i hi => by rw [pd_w_ne (by decide)]; exact hin i hi) (fun x hx' => CRL_e (hD x hx') (fun d hd => by rw [pd_wa (by omega)]) (by rw [pd_wa (by decide)])) (fun x hx' => ?_) (Or.inl ⟨j, rfl, by rw [ez]; exact hf, by rw [ez]; exact hl', by rw [ez]; exact y2⟩)) (fun q hq => ⟨hq.1, by rw [hq.2.1, pd_wa (by decide)], fun d hd => by rw [hq.2.2 d hd, pd_wa (by omega)]⟩)
        by_cases e : x = l
        · refine ⟨j7, by rw [e, pd_w_self], ?_⟩
          rw [e, blt_t (Nat.lt_succ_self l), hf, ns]
          exact w2
        · obtain ⟨j', y1', y2'⟩ := h7 x hx'
          refine ⟨j', by rw [pd_w_nk e]; exact y1', ?_⟩
          rw [y2']
          by_cases c2 : x < l
          · rw [blt_t c2, blt_t (show x < l + 1 by omega)]
          · rw [blt_f c2, blt_f (show ¬ x < l + 1 by omega)]
end YCT
