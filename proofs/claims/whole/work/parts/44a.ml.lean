/-! the lanes of the reference -/
def MIN (inp : Nat → Int32) (v : pd_V) : Prop := ∀ j, j < 16 → inp j = v 203 j
def MRL (L : Nat) (D : xLD) (v : pd_V) : Prop := (∀ j, j < 8 → D.1 j = v 204 (8 * L + j)) ∧ (∀ j, j < 8 → D.2.1 j = v 205 (8 * L + j)) ∧ (∀ j, j < 20 → j < D.2.2.2.1 → D.2.2.1 j = v 206 (20 * L + j)) ∧ v 207 L = Int32.ofNat D.2.2.2.1 ∧ v 208 L = D.2.2.2.2.1 ∧ v 209 L = bi D.2.2.2.2.2
def OTM (L : Nat) (v u : pd_V) : Prop := ∀ L' D', L' < 16 → L' ≠ L → MRL L' D' v → MRL L' D' u
def MRS (o : Nat) (inp : Nat → Int32) (DD : Nat → xLD) (v : pd_V) : Prop := MIN inp v ∧ ∀ l, l < 8 → MRL (o + l) (DD l) v
section ZML2
variable {s : Nat → Int32} {n m w p q L l e0 : Nat} {v u t : pd_V} {x y : Int32} {inp : Nat → Int32} {D D' : xLD} {DD : Nat → xLD} {f : Nat → Bool}
theorem EE_M (hl : L % 8 = l) (h1 : MIN inp v) (h2 : MRL L D v) : EE (zev inp l D) L v := ⟨h2.1, h1, h2.2.1, by rw [hl]; rfl⟩
theorem MRL_q (h : MRL L D v) (e : ∀ d, (204 ≤ d ∧ d ≤ 209) → u d = v d) : MRL L D u := ⟨fun j hj => by rw [e 204 (by omega)]; exact h.1 j hj, fun j hj => by rw [e 205 (by omega)]; exact h.2.1 j hj, fun j hj hc => by rw [e 206 (by omega)]; exact h.2.2.1 j hj hc, by rw [e 207 (by omega)]; exact h.2.2.2.1, by rw [e 208 (by omega)]; exact h.2.2.2.2.1, by rw [e 209 (by omega)]; exact h.2.2.2.2.2⟩
theorem OTM_q (e : ∀ d, (204 ≤ d ∧ d ≤ 209) → u d = v d) : OTM L v u := fun _ _ _ _ h => MRL_q h e
theorem OTM_t (h1 : OTM L v u) (h2 : OTM L u t) : OTM L v t := fun L' D' a b h => h2 L' D' a b (h1 L' D' a b h)
theorem MR_9 (h : MRL L D v) : MRL L (zst D) (pd_w v 209 L 1) ∧ OTM L v (pd_w v 209 L 1) := by
  refine ⟨⟨fun j hj => by rw [pd_w_ne (by decide)]; exact h.1 j hj, fun j hj => by rw [pd_w_ne (by decide)]; exact h.2.1 j hj, fun j hj hc => by rw [pd_w_ne (by decide)]; exact h.2.2.1 j hj hc, by rw [pd_w_ne (by decide)]; exact h.2.2.2.1, by rw [pd_w_ne (by decide)]; exact h.2.2.2.2.1, pd_w_self⟩, fun L' D' _ hne g => ⟨fun j hj => by rw [pd_w_ne (by decide)]; exact g.1 j hj, fun j hj => by rw [pd_w_ne (by decide)]; exact g.2.1 j hj, fun j hj hc => by rw [pd_w_ne (by decide)]; exact g.2.2.1 j hj hc, by rw [pd_w_ne (by decide)]; exact g.2.2.2.1, by rw [pd_w_ne (by decide)]; exact g.2.2.2.2.1, by rw [pd_w_nk hne]; exact g.2.2.2.2.2⟩⟩
theorem MR_8 (h : MRL L D v) : MRL L (D.1, D.2.1, D.2.2.1, D.2.2.2.1, x, D.2.2.2.2.2) (pd_w v 208 L x) ∧ OTM L v (pd_w v 208 L x) := by
  refine ⟨⟨fun j hj => by rw [pd_w_ne (by decide)]; exact h.1 j hj, fun j hj => by rw [pd_w_ne (by decide)]; exact h.2.1 j hj, fun j hj hc => by rw [pd_w_ne (by decide)]; exact h.2.2.1 j hj hc, by rw [pd_w_ne (by decide)]; exact h.2.2.2.1, pd_w_self, by rw [pd_w_ne (by decide)]; exact h.2.2.2.2.2⟩, fun L' D' _ hne g => ⟨fun j hj => by rw [pd_w_ne (by decide)]; exact g.1 j hj, fun j hj => by rw [pd_w_ne (by decide)]; exact g.2.1 j hj, fun j hj hc => by rw [pd_w_ne (by decide)]; exact g.2.2.1 j hj hc, by rw [pd_w_ne (by decide)]; exact g.2.2.2.1, by rw [pd_w_nk hne]; exact g.2.2.2.2.1, by rw [pd_w_ne (by decide)]; exact g.2.2.2.2.2⟩⟩
theorem MR_4 {j : Nat} (hj : j < 8) (h : MRL L D v) : MRL L (zsv j x D) (pd_w v 204 (8 * L + j) x) ∧ OTM L v (pd_w v 204 (8 * L + j) x) := by
  refine ⟨⟨fun i hi => ?_, fun j hj => by rw [pd_w_ne (by decide)]; exact h.2.1 j hj, fun j hj hc => by rw [pd_w_ne (by decide)]; exact h.2.2.1 j hj hc, by rw [pd_w_ne (by decide)]; exact h.2.2.2.1, by rw [pd_w_ne (by decide)]; exact h.2.2.2.2.1, by rw [pd_w_ne (by decide)]; exact h.2.2.2.2.2⟩, fun L' D' _ hne g => ⟨fun i hi => by rw [pd_w_nk (by omega)]; exact g.1 i hi, fun j hj => by rw [pd_w_ne (by decide)]; exact g.2.1 j hj, fun j hj hc => by rw [pd_w_ne (by decide)]; exact g.2.2.1 j hj hc, by rw [pd_w_ne (by decide)]; exact g.2.2.2.1, by rw [pd_w_ne (by decide)]; exact g.2.2.2.2.1, by rw [pd_w_ne (by decide)]; exact g.2.2.2.2.2⟩⟩
  show (bif Nat.beq i j then x else D.1 i) = _
  by_cases z : i = j
  · rw [z, Nat.beq_refl, pd_w_self]
    rfl
  · rw [beq_f z, pd_w_nk (by omega)]
    exact h.1 i hi
theorem MR_5 {j : Nat} (hj : j < 8) (h : MRL L D v) : MRL L (zsc j x D) (pd_w v 205 (8 * L + j) x) ∧ OTM L v (pd_w v 205 (8 * L + j) x) := by
  refine ⟨⟨fun j hj => by rw [pd_w_ne (by decide)]; exact h.1 j hj, fun i hi => ?_, fun j hj hc => by rw [pd_w_ne (by decide)]; exact h.2.2.1 j hj hc, by rw [pd_w_ne (by decide)]; exact h.2.2.2.1, by rw [pd_w_ne (by decide)]; exact h.2.2.2.2.1, by rw [pd_w_ne (by decide)]; exact h.2.2.2.2.2⟩, fun L' D' _ hne g => ⟨fun j hj => by rw [pd_w_ne (by decide)]; exact g.1 j hj, fun i hi => by rw [pd_w_nk (by omega)]; exact g.2.1 i hi, fun j hj hc => by rw [pd_w_ne (by decide)]; exact g.2.2.1 j hj hc, by rw [pd_w_ne (by decide)]; exact g.2.2.2.1, by rw [pd_w_ne (by decide)]; exact g.2.2.2.2.1, by rw [pd_w_ne (by decide)]; exact g.2.2.2.2.2⟩⟩
  show (bif Nat.beq i j then x else D.2.1 i) = _
  by_cases z : i = j
  · rw [z, Nat.beq_refl, pd_w_self]
    rfl
  · rw [beq_f z, pd_w_nk (by omega)]
    exact h.2.1 i hi
theorem MR_7 (hcn : D.2.2.2.1 < 2000000000) (h : MRL L D v) (ht : (∀ d, (204 ≤ d ∧ d ≤ 209) → d ≠ 206 → t d = v d) ∧ (∀ L' j, L' ≠ L → j < 20 → t 206 (20 * L' + j) = v 206 (20 * L' + j)) ∧ (∀ j, j < 20 → j < D.2.2.2.1 + 1 → (bif Nat.beq j D.2.2.2.1 then x else D.2.2.1 j) = t 206 (20 * L + j))) : MRL L (zpt x D) (pd_w t 207 L (Int32.ofNat D.2.2.2.1 + (1 : Int32))) ∧ OTM L v (pd_w t 207 L (Int32.ofNat D.2.2.2.1 + (1 : Int32))) := by
  obtain ⟨f1, f2, f3⟩ := ht
  refine ⟨⟨fun j hj => by rw [pd_w_ne (by decide), f1 204 (by omega) (by decide)]; exact h.1 j hj, fun j hj => by rw [pd_w_ne (by decide), f1 205 (by omega) (by decide)]; exact h.2.1 j hj, fun j hj hc => by rw [pd_w_ne (by decide)]; exact f3 j hj hc, ?_, by rw [pd_w_ne (by decide), f1 208 (by omega) (by decide)]; exact h.2.2.2.2.1, by rw [pd_w_ne (by decide), f1 209 (by omega) (by decide)]; exact h.2.2.2.2.2⟩, fun L' D' _ hne g => ⟨fun j hj => by rw [pd_w_ne (by decide), f1 204 (by omega) (by decide)]; exact g.1 j hj, fun j hj => by rw [pd_w_ne (by decide), f1 205 (by omega) (by decide)]; exact g.2.1 j hj, fun j hj hc => by rw [pd_w_ne (by decide), f2 L' j hne hj]; exact g.2.2.1 j hj hc, by rw [pd_w_nk hne, f1 207 (by omega) (by decide)]; exact g.2.2.2.1, by rw [pd_w_ne (by decide), f1 208 (by omega) (by decide)]; exact g.2.2.2.2.1, by rw [pd_w_ne (by decide), f1 209 (by omega) (by decide)]; exact g.2.2.2.2.2⟩⟩
  show pd_w t 207 L (Int32.ofNat D.2.2.2.1 + (1 : Int32)) 207 L = Int32.ofNat (D.2.2.2.1 + 1)
  rw [pd_w_self, ofN1]
/-- a value has been reckoned -/
theorem VQ_M {o : Option Int32} {r : Int32 × pd_V} (h : MRL L D v) (hst : D.2.2.2.2.2 = false) (hV : VQ L q (Int32.ofNat p) o v r) : (∀ y, o = some y → r.1 = y ∧ At q r.2 ∧ MRL L D r.2 ∧ r.2 209 L = 0) ∧ (o = none → MRL L (ztr p D) r.2 ∧ r.2 209 L = 1) ∧ OTM L v r.2 := by
  obtain ⟨v1, v2, v3⟩ := hV
  rcases v3 with ⟨y, y1, y2, y3, y4, y5⟩ | ⟨y1, y2, y3, y4⟩
  · have e : ∀ d, (204 ≤ d ∧ d ≤ 209) → r.2 d = v d := fun d hd => by
      by_cases a : d = 208
      · rw [a]; exact y4
      · by_cases b : d = 209
        · rw [b]; exact y5
        · exact v1 d (by omega) a b (by omega)
    refine ⟨fun y' hy' => ?_, fun hn => by rw [hn] at y1; exact (nomatch y1), OTM_q e⟩
    have : y = y' := Option.some.inj (y1.symm.trans hy')
    subst this
    refine ⟨y2, y3, MRL_q h e, ?_⟩
    rw [e 209 (by omega), h.2.2.2.2.2, hst]
    rfl
  · have e : ∀ d, (204 ≤ d ∧ d ≤ 207) → r.2 d = v d := fun d hd => v1 d (by omega) (by omega) (by omega) (by omega)
    refine ⟨fun y hy => by rw [hy] at y1; exact (nomatch y1), fun _ => ⟨⟨fun j hj => by rw [e 204 (by omega)]; exact h.1 j hj, fun j hj => by rw [e 205 (by omega)]; exact h.2.1 j hj, fun j hj hc => by rw [e 206 (by omega)]; exact h.2.2.1 j hj hc, by rw [e 207 (by omega)]; exact h.2.2.2.1, y3, y4⟩, y4⟩, fun L' D' _ hne g => ⟨fun j hj => by rw [e 204 (by omega)]; exact g.1 j hj, fun j hj => by rw [e 205 (by omega)]; exact g.2.1 j hj, fun j hj hc => by rw [e 206 (by omega)]; exact g.2.2.1 j hj hc, by rw [e 207 (by omega)]; exact g.2.2.2.1, by rw [(y2 L' hne).1]; exact g.2.2.2.2.1, by rw [(y2 L' hne).2]; exact g.2.2.2.2.2⟩⟩
theorem MIN_V {o : Option Int32} {r : Int32 × pd_V} (h : MIN inp v) (hV : VQ L q x o v r) : MIN inp r.2 := fun j hj => by rw [hV.1 203 (by decide) (by decide) (by decide) (by decide)]; exact h j hj
theorem TX_V {o : Option Int32} {r : Int32 × pd_V} (h : TX n s v) (hV : VQ L q x o v r) : TX n s r.2 := ⟨by rw [hV.2.1 4 (by decide) (by decide)]; exact h.1, fun j hj => by rw [hV.1 200 (by decide) (by decide) (by decide) (by decide)]; exact h.2 j hj⟩
/-- a statement that opens no block and is no X -/
theorem zma_t (hw : 4294967296 < w) (hn : n ≤ 160) (h0 : ∀ j, n ≤ j → s j = 0) (hL : L < 16) (hl : L % 8 = l) (hT : TX n s v) (hX : XS s p e0) (he : s e0 = 59) (h88 : s p ≠ 88) (hin : MIN inp v) (hD : MRL L D v) (hst : D.2.2.2.2.2 = false) (hcn : D.2.2.2.1 < 2000000000) : Pf (d_Mo_act w (Int32.ofNat L) (Int32.ofNat p) v) (fun q => MRL L (zac s n inp l p D) q ∧ OTM L v q) := by
  have hen := lt_n h0 he (by decide)
  have hp : p < n := by
    rcases hX with ⟨h, -⟩ | ⟨h, -⟩ | ⟨h, -⟩ | ⟨h, -⟩ | ⟨h, -⟩
    · exact lt_n h0 h (by decide)
    · exact lt_n h0 h (by decide)
    · exact lt_n h0 h (by decide)
    · exact lt_n h0 h (by decide)
    · rcases Nat.lt_or_ge p n with c | c
      · exact c
      · rw [h0 p c] at h; exact absurd h (by decide)
  have hd : xdig (s e0) = false := xdig_59 he
  have hEE := EE_M hl hin hD
  have val : ∀ (p1 : Nat), p1 ≤ n → xE s p1 = (true, e0) → Sf (d_Mo_valueOf w (Int32.ofNat L) (Int32.ofNat p1) (Int32.ofNat p) v) (VQ L e0 (Int32.ofNat p) (xw s n (zev inp l D) p1) v) := fun p1 h1 h2 => vlq_t hw hn h0 (Nat.le_refl 4) hL h1 hen hd hT hEE h2
  unfold d_Mo_act
  rw [cl_nat (show p ≤ 1000 by omega), cl_nat (show L ≤ 1000 by omega), hT.2 p hp]
  refine pf_c (fun _ => ?_)
  refine pf_n (fun c82 => ?_) (fun c82 => ?_)
  · refine pf_n (fun c79 => ?_) (fun c79 => ?_)
    · refine pf_n (fun c76 => ?_) (fun c76 => ?_)
      · obtain ⟨hv, hE⟩ := XS_V hX c79 c82 c76 h88
        have hz : zac s n inp l p D = (xw s n (zev inp l D) (p + 2)).elim (ztr p D) (fun x => zsv (s p - 97).toNatClampNeg x D) := by
          unfold zac
          rw [decide_eq_false c82, decide_eq_false c79, decide_eq_false c76]
          rfl
        rw [hz, ofN2 p]
        have hE2 := (xE_g hE).2
        refine pf_bind (pf_sf (val (p + 2) (by omega) hE)) (fun q5 h5 => ?_)
        have hM := VQ_M hD hst h5
        refine pf_c (fun _ => ?_)
        cases ho : xw s n (zev inp l D) (p + 2) with
        | none =>
          obtain ⟨m1, m2⟩ := hM.2.1 ho
          refine pf_n (fun _ => pf_some ⟨m1, hM.2.2⟩) (fun z => absurd (m2.symm.trans z) (by decide))
        | some y =>
          obtain ⟨m1, m2, m3, m4⟩ := hM.1 y ho
          refine pf_n (fun z => absurd m4 z) (fun _ => ?_)
          rw [var_i hL hv, m1]
          have hr := vlet hv
          have hlt : (s p - 97).toNatClampNeg < 8 := by
            show (s p - (97 : Int32)).toInt.toNat < 8
            omega
          have s1 := MR_4 (x := y) hlt m3
          exact pf_c (fun _ => pf_some ⟨s1.1, OTM_t hM.2.2 s1.2⟩)
      · obtain ⟨r, g1, g2, g3, g4⟩ := XS_L hX c76
        have hrn := lt_n h0 g2 (by decide)
        have hz : zac s n inp l p D = (xw s n (zev inp l D) (p + 2)).elim (ztr p D) (fun i => (xw s n (zev inp l D) (r + 2)).elim (ztr p D) (fun x => bif decide (d_Mo_beyond i 0 7 = 0) then zsc i.toNatClampNeg x D else ztr p D)) := by
          unfold zac
          rw [decide_eq_false c82, decide_eq_false c79, decide_eq_true c76, g1]
          rfl
        have gg := (xp_g _ _ _ _ _ g1).1.1
        rw [hz, ofN2 p]
        have hE2 := (xE_g g4).2
        refine pf_bind (pf_sf (vlq_t hw hn h0 (show 3 ≤ 4 by omega) hL (by omega) hrn (xdig_93 g2) hT hEE g1)) (fun q9 h9 => ?_)
        have hM := VQ_M hD hst h9
        refine pf_c (fun _ => ?_)
        cases ho : xw s n (zev inp l D) (p + 2) with
        | none =>
          obtain ⟨m1, m2⟩ := hM.2.1 ho
          refine pf_d (fun z => absurd (m2.symm.trans z) (by decide)) (fun _ => pf_c (fun _ => ?_))
          exact pf_d (fun z => absurd (m2.symm.trans z) (by decide)) (fun _ => pf_some ⟨m1, hM.2.2⟩)
        | some i =>
          obtain ⟨m1, m2, m3, m4⟩ := hM.1 i ho
          refine pf_d (fun _ => ?_) (fun z => absurd m4 z)
          have m2' : q9.2 198 6 = Int32.ofNat r := m2
          rw [m2', ofN2 r]
          have T9 := TX_V hT h9
          have I9 := MIN_V hin h9
          refine pf_bind (pf_sf (vlq_t hw hn h0 (Nat.le_refl 4) hL (by omega) hen hd T9 (EE_M hl I9 m3) g4)) (fun q12 h12 => ?_)
          have hM2 := VQ_M m3 hst h12
          refine pf_c (fun _ => ?_)
          show Pf _ (fun q => MRL L ((xw s n (zev inp l D) (r + 2)).elim (ztr p D) (fun x => bif decide (d_Mo_beyond i 0 7 = 0) then zsc i.toNatClampNeg x D else ztr p D)) q ∧ OTM L v q)
          cases ho2 : xw s n (zev inp l D) (r + 2) with
          | none =>
            obtain ⟨k1, k2⟩ := hM2.2.1 ho2
            exact pf_d (fun z => absurd (k2.symm.trans z) (by decide)) (fun _ => pf_some ⟨k1, OTM_t hM.2.2 hM2.2.2⟩)
          | some y =>
            obtain ⟨k1, k2, k3, k4⟩ := hM2.1 y ho2
            refine pf_d (fun _ => ?_) (fun z => absurd k4 z)
            show Pf _ (fun q => MRL L (bif decide (d_Mo_beyond i 0 7 = 0) then zsc i.toNatClampNeg y D else ztr p D) q ∧ OTM L v q)
            rw [m1, k1]
            refine pf_d (fun hb => ?_) (fun hb => ?_)
            · have b2 := bey0 hb
              have e7 : (7 : Int32).toInt = 7 := by decide
              have ez := sI_0
              have hlt : i.toNatClampNeg < 8 := by
                show i.toInt.toNat < 8
                omega
              rw [cel_i hL (by omega), decide_eq_true hb]
              have s1 := MR_5 (x := y) hlt k3
              exact pf_c (fun _ => pf_some ⟨s1.1, OTM_t (OTM_t hM.2.2 hM2.2.2) s1.2⟩)
            · rw [decide_eq_false hb]
              have s1 := MR_8 (x := Int32.ofNat p + 1) k3
              have s2 := MR_9 s1.1
              exact pf_c (fun _ => pf_c (fun _ => pf_some ⟨s2.1, OTM_t (OTM_t (OTM_t hM.2.2 hM2.2.2) s1.2) s2.2⟩))
    · have hE := XS_O hX c79
      have hz : zac s n inp l p D = (xw s n (zev inp l D) (p + 1)).elim (ztr p D) (fun x => zpt x D) := by
        unfold zac
        rw [decide_eq_false c82, decide_eq_true c79]
        rfl
      rw [hz, ofN1 p]
      have hE2 := (xE_g hE).2
      refine pf_bind (pf_sf (val (p + 1) (by omega) hE)) (fun q27 h27 => ?_)
      have hM := VQ_M hD hst h27
      refine pf_c (fun _ => ?_)
      cases ho : xw s n (zev inp l D) (p + 1) with
      | none =>
        obtain ⟨m1, m2⟩ := hM.2.1 ho
        refine pf_d (fun z => absurd (m2.symm.trans z) (by decide)) (fun _ => pf_some ⟨m1, hM.2.2⟩)
      | some y =>
        obtain ⟨m1, m2, m3, m4⟩ := hM.1 y ho
        refine pf_d (fun _ => ?_) (fun z => absurd m4 z)
        have e7 := m3.2.2.2.1
        have hi : (Int32.ofNat D.2.2.2.1).toInt = D.2.2.2.1 := Int32.toInt_ofNat_of_lt (by omega)
        rw [e7, m1]
        refine pf_c (fun _ => ?_)
        refine pf_d (fun c2 => ?_) (fun c2 => ?_)
        · have c3 := Int32.le_iff_toInt_le.mp c2
          have e20 : (20 : Int32).toInt = 20 := by decide
          rw [hi, e20] at c3
          have s1 := MR_7 (t := q27.2) (x := y) hcn m3 ⟨fun _ _ _ => rfl, fun _ _ _ _ => rfl, fun j hj hc => by
            rw [beq_f (show j ≠ D.2.2.2.1 by omega)]
            exact m3.2.2.1 j hj (by omega)⟩
          exact pf_c (fun _ => pf_c (fun _ => pf_some ⟨s1.1, OTM_t hM.2.2 s1.2⟩))
        · have c3 : D.2.2.2.1 < 20 := by
            rcases Nat.lt_or_ge D.2.2.2.1 20 with z | z
            · exact z
            · exact absurd (Int32.le_iff_toInt_le.mpr (by
                have e20 : (20 : Int32).toInt = 20 := by decide
                rw [hi, e20]
                omega)) c2
          have ei : ((20 : Int32) * Int32.ofNat L + Int32.ofNat D.2.2.2.1).toNatClampNeg = 20 * L + D.2.2.2.1 := by
            rw [show (20 : Int32) = Int32.ofNat 20 from rfl, ← Int32.ofNat_mul, ← Int32.ofNat_add, cl_nat (by omega)]
          rw [ei]
          have s1 := MR_7 (t := pd_w q27.2 206 (20 * L + D.2.2.2.1) y) (x := y) hcn m3 ⟨fun d _ hd => pd_wa hd, fun L' j hne hj => pd_w_nk (by omega), fun j hj hc => by
            by_cases z : j = D.2.2.2.1
            · rw [z, Nat.beq_refl, pd_w_self]
              rfl
            · rw [beq_f z, pd_w_nk (by omega)]
              exact m3.2.2.1 j hj (by omega)⟩
          exact pf_c (fun _ => pf_c (fun _ => pf_c (fun _ => pf_c (fun _ => pf_some ⟨s1.1, OTM_t hM.2.2 s1.2⟩))))
  · have hz : zac s n inp l p D = zst D := by unfold zac; rw [decide_eq_true c82]; rfl
    rw [hz]
    have s1 := MR_9 hD
    exact pf_c (fun _ => pf_some s1)
end ZML2
