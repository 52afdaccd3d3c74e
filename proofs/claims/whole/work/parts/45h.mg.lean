/-! a lane of the reference goes on -/
/-- behind the first half of a round -/
def LAF (s : Nat → Int32) (n l : Nat) (Y : xAS) (u : pd_V) : Prop := (Y.2.2.2.2.2.2.2 = false ∧ Y.1 < n ∧ u 215 l = 1 ∧ MRL (8 + l) Y.2.2 u ∧ zLS s l Y.1 Y.2.1 u) ∨ ((Y.2.2.2.2.2.2.2 = true ∨ n ≤ Y.1) ∧ u 215 l = 0 ∧ MRL (8 + l) (zst Y.2.2) u)
def FG (l : Nat) (v q : pd_V) : Prop := (∀ a, (a < 198 ∨ 199 ≤ a ∧ a ≤ 203) → q a = v a) ∧ (∀ k, k ≠ 6 → k ≠ 19 → k ≠ 28 → q 198 k = v 198 k) ∧ OL l v q ∧ OTM (8 + l) v q
section YMG
variable {s : Nat → Int32} {n m w p p' q j e c o h r N i1 a b l z d L : Nat} {k k' k0 : xK} {inp : Nat → Int32} {D : xLD} {v u t : pd_V} {x y M : Int32} {Y : xAS}
theorem FG_r : FG l v v := ⟨fun _ _ => rfl, fun _ _ _ _ => rfl, OL_r, fun _ _ _ _ h => h⟩
theorem FG_t (h1 : FG l v u) (h2 : FG l u t) : FG l v t := ⟨fun a b => (h2.1 a b).trans (h1.1 a b), fun k b c d => (h2.2.1 k b c d).trans (h1.2.1 k b c d), OL_t h1.2.2.1 h2.2.2.1, OTM_t h1.2.2.2 h2.2.2.2⟩
theorem FG_S (h : SL l v u) : FG l v u := ⟨h.1, fun k b c _ => h.2.1 k b c, h.2.2.1, h.2.2.2.1⟩
theorem FG_28 : FG l v (pd_w v 198 28 x) := ⟨fun a b => pd_wa (by omega), fun k _ _ d => pd_w_nk d, OL_w OL_r (by decide), OTM_q (fun d hd => pd_wa (by omega))⟩
theorem FG_9 : FG l v (pd_w v 209 (8 + l) x) := ⟨fun a b => pd_wa (by omega), fun k _ _ _ => pd_w_ne (by decide), OL_w OL_r (by decide), fun L' D' h1 h2 hM => by
  obtain ⟨m1, m2, m3, m4, m5, m6⟩ := hM
  exact ⟨fun j hj => by rw [pd_w_ne (by decide)]; exact m1 j hj, fun j hj => by rw [pd_w_ne (by decide)]; exact m2 j hj, fun j hj hc => by rw [pd_w_ne (by decide)]; exact m3 j hj hc, by rw [pd_w_ne (by decide)]; exact m4, by rw [pd_w_ne (by decide)]; exact m5, by rw [pd_w_nk h2]; exact m6⟩⟩
theorem FG_15 : FG l v (pd_w v 215 l x) := ⟨fun a b => pd_wa (by omega), fun k _ _ _ => pd_w_ne (by decide), OL_l OL_r (by decide), OTM_q (fun d hd => pd_wa (by omega))⟩
theorem ygs_m (hw : 4294967296 < w) (hn : n ≤ 160) (h0 : ∀ j, n ≤ j → s j = 0) (hW : xR s n []) (hl : l < 8) : ∀ (F L : Nat) (Y : xAS) (v : pd_V), TX n s v → MIN inp v → MRL (8 + l) Y.2.2 v → (Y.2.2.2.2.2.2.2 = true ∨ ∃ p k, zLS s l p k v ∧ zbw s 200 (p, k) = (Y.1, Y.2.1)) → v 198 28 = Int32.ofNat L → v 215 l = 0 → L ≤ 4000 → Y.2.2.2.2.2.1 + L ≤ 4000 → Pf (d_Mo_goes_5 w F (Int32.ofNat l) (Int32.ofNat (8 + l)) v) (fun r => FG l v r.2 ∧ (((zgl s n inp l L Y).1 = false ∧ r.1 = 0) ∨ ((zgl s n inp l L Y).1 = true ∧ r.1 = 1 ∧ r.2 198 28 = Int32.ofNat (zgl s n inp l L Y).2.1 ∧ LAF s n l (zgl s n inp l L Y).2.2 r.2))) := by
  have cl : (Int32.ofNat l).toNatClampNeg = l := cl_nat (by omega)
  have cl8 : (Int32.ofNat (8 + l)).toNatClampNeg = 8 + l := cl_nat (by omega)
  intro F
  induction F with
  | zero => intro L Y v _ _ _ _ _ _ _ _; rw [d_Mo_goes_5]; exact pf_none
  | succ F ih =>
    intro L Y v hT hin hD hP h28 h15 hL hc
    obtain ⟨p1, k1, D⟩ := Y
    have hD : MRL (8 + l) D v := hD
    have hc : D.2.2.2.1 + L ≤ 4000 := hc
    have ending : zhl s n (p1, k1, D) = true → (D.2.2.2.2.2 = true ∨ n ≤ p1) → Pf (bif pm_in (Int32.ofNat (8 + l)) 16 then some ((1 : Int32), (pd_w v 209 (8 + l) (1 : Int32))) else none) (fun r => FG l v r.2 ∧ (((zgl s n inp l L (p1, k1, D)).1 = false ∧ r.1 = 0) ∨ ((zgl s n inp l L (p1, k1, D)).1 = true ∧ r.1 = 1 ∧ r.2 198 28 = Int32.ofNat (zgl s n inp l L (p1, k1, D)).2.1 ∧ LAF s n l (zgl s n inp l L (p1, k1, D)).2.2 r.2))) := by
      intro hh hd
      rw [zgl_h hh]
      refine pf_c (fun _ => pf_some ⟨FG_9, Or.inr ⟨rfl, rfl, ?_, Or.inr ⟨hd, ?_, (MR_9 hD).1⟩⟩⟩)
      · show pd_w v 209 (8 + l) (1 : Int32) 198 28 = _
        rw [pd_w_ne (by decide)]
        exact h28
      · show pd_w v 209 (8 + l) (1 : Int32) 215 l = _
        rw [pd_w_ne (by decide)]
        exact h15
    rw [d_Mo_goes_5, cl, cl8, hD.2.2.2.2.2]
    refine pf_c (fun _ => ?_)
    cases hst : D.2.2.2.2.2 with
    | true =>
      refine pf_n (fun _ => ending ?_ (Or.inl hst)) (fun z => absurd z (by decide))
      show (D.2.2.2.2.2 || _) = true
      rw [hst]
      rfl
    | false =>
      refine pf_n (fun z => absurd rfl z) (fun _ => pf_c (fun _ => ?_))
      obtain ⟨p, k, hS, hb⟩ : ∃ p k, zLS s l p k v ∧ zbw s 200 (p, k) = (p1, k1) := by
        rcases hP with h | h
        · have h : D.2.2.2.2.2 = true := h
          rw [hst] at h
          exact absurd h (by decide)
        · exact h
      have hR := hS.2.1
      have hpn : p ≤ n := xR_le h0 hW hR
      rw [hS.1, hT.1, le_nat (by omega) (by omega)]
      refine pf_d (fun cn => ?_) (fun cn => ?_)
      · have e : zbw s 200 (p, k) = (p, k) := zbw_e (by show s p ≠ 125; rw [h0 p cn]; decide)
        rw [e] at hb
        have e1 : p = p1 := congrArg Prod.fst hb
        refine ending ?_ (Or.inr (by omega))
        show (D.2.2.2.2.2 || (Nat.ble n p1 || decide (s p1 = 88))) = true
        rw [ble_t (show n ≤ p1 by omega), hst]
        rfl
      · have hp : p < n := by omega
        refine pf_c (fun _ => pf_c (fun _ => ?_))
        rw [cl_nat (show p ≤ 1000 by omega), hT.2 p hp]
        refine pf_n (fun c125 => ?_) (fun c125 => ?_)
        · have e : zbw s 200 (p, k) = (p, k) := zbw_e c125
          rw [e] at hb
          have e1 : p = p1 := congrArg Prod.fst hb
          have e2 : k = k1 := congrArg Prod.snd hb
          subst e1 e2
          refine pf_c (fun _ => pf_n (fun c88 => ?_) (fun c88 => ?_))
          · have hh : zhl s n (p, k, D) = false := by
              show (D.2.2.2.2.2 || (Nat.ble n p || decide (s p = 88))) = false
              rw [hst, ble_f (by omega), decide_eq_false c88]
              rfl
            rw [h28]
            refine pf_n (fun cL => ?_) (fun cL => ?_)
            · obtain ⟨L', eL⟩ : ∃ L', L = L' + 1 := by
                cases L with
                | zero => exact absurd rfl cL
                | succ L' => exact ⟨L', rfl⟩
              subst eL
              rw [zgl_s hh, dec_ofNat]
              obtain ⟨v2, hv2⟩ : ∃ v2, v2 = pd_w v 198 28 (Int32.ofNat L') := ⟨_, rfl⟩
              rw [← hv2]
              have f2 : FG l v v2 := by rw [hv2]; exact FG_28
              have T2 : TX n s v2 := ⟨by rw [f2.2.1 4 (by decide) (by decide) (by decide)]; exact hT.1, fun j hj => by rw [f2.1 200 (by omega)]; exact hT.2 j hj⟩
              have I2 : MIN inp v2 := fun j hj => by rw [f2.1 203 (by omega)]; exact hin j hj
              have D2 : MRL (8 + l) D v2 := MRL_q hD (fun d hd => by rw [hv2, pd_wa (by omega)])
              have S2 : zLS s l p k v2 := zLS_e hS (by rw [hv2, pd_w_ne (by decide)]) (by rw [hv2, pd_w_ne (by decide)]) (fun i _ => by rw [hv2, pd_w_ne (by decide)])
              have e28 : v2 198 28 = Int32.ofNat L' := by rw [hv2, pd_w_self]
              have e15 : v2 215 l = 0 := by rw [hv2, pd_w_ne (by decide)]; exact h15
              obtain ⟨p', k', hs⟩ : ∃ p' k', xns s p k = (true, p', k') := by
                rcases xR_n h0 hW hR with ⟨e, -⟩ | e
                · omega
                · exact e
              have next : ∀ u, LPl s l (zls s n inp l (p, k, D)) u → SL l v2 u → Pf (d_Mo_goes_5 w F (Int32.ofNat l) (Int32.ofNat (8 + l)) u) (fun r => FG l v r.2 ∧ (((zgl s n inp l L' (zln s n inp l (p, k, D))).1 = false ∧ r.1 = 0) ∨ ((zgl s n inp l L' (zln s n inp l (p, k, D))).1 = true ∧ r.1 = 1 ∧ r.2 198 28 = Int32.ofNat (zgl s n inp l L' (zln s n inp l (p, k, D))).2.1 ∧ LAF s n l (zgl s n inp l L' (zln s n inp l (p, k, D))).2.2 r.2))) := by
                intro u u1 u2
                have cc : (zln s n inp l (p, k, D)).2.2.2.2.2.1 ≤ D.2.2.2.1 + 1 := cnt_ls
                refine pf_mono (ih L' (zln s n inp l (p, k, D)) u (TX_L T2 u2) (MIN_L I2 u2) u1.1 ?_ (by rw [u2.2.1 28 (by decide) (by decide)]; exact e28) (by rw [u2.2.2.2.2]; exact e15) (by omega) (by omega)) (fun r hr => ⟨FG_t (FG_t f2 (FG_S u2)) hr.1, hr.2⟩)
                rcases u1.2 with z | z
                · exact Or.inl z
                · exact Or.inr ⟨_, _, z, rfl⟩
              have head : (s p = 63 ∨ s p = 42) → Pf ((d_Mo_choose w (Int32.ofNat (8 + l)) (Int32.ofNat l) (Int32.ofNat p) v2).bind fun q15 => d_Mo_goes_5 w F (Int32.ofNat l) (Int32.ofNat (8 + l)) q15) (fun r => FG l v r.2 ∧ (((zgl s n inp l L' (zln s n inp l (p, k, D))).1 = false ∧ r.1 = 0) ∨ ((zgl s n inp l L' (zln s n inp l (p, k, D))).1 = true ∧ r.1 = 1 ∧ r.2 198 28 = Int32.ofNat (zgl s n inp l L' (zln s n inp l (p, k, D))).2.1 ∧ LAF s n l (zgl s n inp l L' (zln s n inp l (p, k, D))).2.2 r.2))) := by
                intro hs2
                rcases xns_c hs with ⟨t, -⟩ | ⟨-, r, g1, g2, g3, g4, g5⟩ | ⟨e, -, -, -, -, -, t⟩
                · exact absurd t c125
                · rw [g4, g5] at hs
                  exact pf_bind (ych_t hw hn h0 hW hl T2 I2 S2 D2 hst hs2 g1 g2 g3 hs) (fun q15 h15 => next q15 h15.1 h15.2)
                · have := XS_h t
                  rcases hs2 with t2 | t2
                  · exact absurd t2 this.2.1
                  · exact absurd t2 this.2.2
              refine pf_c (fun _ => pf_d (fun c63 => head (Or.inl c63)) (fun c63 => pf_c (fun _ => pf_n (fun c42 => ?_) (fun c42 => head (Or.inr c42)))))
              rcases xns_c hs with ⟨t, -⟩ | ⟨t | t, -⟩ | ⟨e, ep, ek, g3, g4, g5, g6⟩
              · exact absurd t c125
              · exact absurd t c63
              · exact absurd t c42
              · have he := lt_n h0 g3 (by decide)
                rw [ep, ek] at hs
                have hR' := xR_s hR hs
                have hPP : 0 ≤ (v2 207 (8 + l)).toInt := by
                  rw [D2.2.2.2.1, Int32.toInt_ofNat_of_lt (by omega)]
                  omega
                refine pf_bind (pf_and (pf_sf (ac_t hw hn (show 8 + l < 16 by omega) T2 he g4 g3 g6 c88 hPP)) (zma_t hw hn h0 (show 8 + l < 16 by omega) (show (8 + l) % 8 = l by omega) T2 g6 g3 c88 I2 D2 hst (by omega))) (fun q18 h18 => ?_)
                obtain ⟨⟨hA, -⟩, m1, m2⟩ := h18
                have S18 : SL l v2 q18 := ⟨fun a b => hA.1 a (by omega) (by omega) (by omega) (by omega) (by omega), hA.2, OL_A hA, m2, hA.1 215 (by decide) (by omega) (by decide) (by decide) (by omega)⟩
                have T18 := TX_L T2 S18
                rw [su_t hw hn T18.2 he g3 g5]
                refine pf_sb (pf_c (fun _ => ?_))
                rw [ofN1]
                refine next _ ?_ (SL_t S18 (SL_L (LF_0 _)))
                rw [zls_s c63 c42 hs]
                refine ⟨MRL_L m1 (LF_0 _), Or.inr ⟨pd_w_self, hR', ?_, LM_e S2.2.2.2 (fun i _ => ?_)⟩⟩
                · rw [pd_w_ne (by decide), hA.1 211 (by decide) (by omega) (by decide) (by decide) (by omega)]
                  exact S2.2.2.1
                · rw [pd_w_ne (by decide), hA.1 212 (by decide) (by omega) (by decide) (by decide) (by omega)]
            · have e0 : L = 0 := ofN_i (by omega) (by omega) cL
              subst e0
              rw [zgl_0]
              exact pf_some ⟨FG_r, Or.inl ⟨hh, rfl⟩⟩
          · have hh : zhl s n (p, k, D) = true := by
              show (D.2.2.2.2.2 || (Nat.ble n p || decide (s p = 88))) = true
              rw [hst, decide_eq_true c88, Bool.or_true]
              rfl
            rw [zgl_h hh]
            refine pf_c (fun _ => pf_some ⟨FG_15, Or.inr ⟨rfl, rfl, ?_, Or.inl ⟨hst, hp, by dsimp only; rw [pd_w_self], MRL_q hD (fun d hd => by dsimp only; rw [pd_wa (by omega)]), zLS_e hS (by dsimp only; rw [pd_w_ne (by decide)]) (by dsimp only; rw [pd_w_ne (by decide)]) (fun i _ => by dsimp only; rw [pd_w_ne (by decide)])⟩⟩⟩)
            show pd_w v 215 l (1 : Int32) 198 28 = _
            rw [pd_w_ne (by decide)]
            exact h28
        · refine pf_bind (ylv_t hw hn h0 hW hl hT c125 hS) (fun q23 h23 => ?_)
          obtain ⟨z1, z2⟩ := h23
          have S23 := SL_L z2
          refine pf_mono (ih L (p1, k1, D) q23 (TX_L hT S23) (MIN_L hin S23) (MRL_L hD z2) (Or.inr ⟨_, _, z1, ?_⟩) (by rw [S23.2.1 28 (by decide) (by decide)]; exact h28) (by rw [S23.2.2.2.2]; exact h15) hL hc) (fun r hr => ⟨FG_t (FG_S S23) hr.1, hr.2⟩)
          have := zbw_1 hn h0 hW hR c125
          rw [hb] at this
          exact this.symm
end YMG
