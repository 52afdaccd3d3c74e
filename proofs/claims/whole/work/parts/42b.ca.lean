/-! what the class's crew does with a statement -/
section ZCA
variable {s : Nat → Int32} {n m w a b c l p q i i1 nb j e0 : Nat} {v u t : pd_V} {x y : Int32} {inp : Nat → Int32} {D D' : xLD} {e : xEv}
theorem zck_0 {k : Nat} (hk : k ≤ 1000) : Pf (d_Cr_reckon w c a (Int32.ofNat k) (Int32.ofNat k) x v) (fun r => r.2 = v) := by
  unfold d_Cr_reckon
  cases w with
  | zero => rw [d_Cr_reckon_6]; exact pf_none
  | succ w =>
    rw [d_Cr_reckon_6, le_nat hk hk, decide_eq_true (Nat.le_refl k)]
    exact pf_t (pf_c (fun _ => pf_some rfl))
theorem zck_9 {y z : Int32} (h : v c 9 ≠ 0) : Pf (d_Cr_reckon w c a y z x v) (fun r => r.2 = v) := by
  unfold d_Cr_reckon
  cases w with
  | zero => rw [d_Cr_reckon_6]; exact pf_none
  | succ w =>
    rw [d_Cr_reckon_6]
    exact pf_b (pf_c (fun _ => pf_some rfl)) (pf_n (fun _ => pf_c (fun _ => pf_some rfl)) (fun z => absurd z h))
def ACR (c l : Nat) (D : xLD) (v q : pd_V) : Prop := CRL c l D q ∧ OTH c l v q ∧ ∀ d, (d = c + 1 ∨ d = c + 8 ∨ d = c + 9) → q d = v d
theorem acr_put (hl : l < 8) (hcn : D.2.2.2.1 < 2000000000) (f : RKF c v u) (h : CRL c l D v) : Pf ((d_Cr_put c (Int32.ofNat l) x u).bind fun q12 => some q12) (ACR c l (zpt x D) v) :=
  pf_bind (CR_put hl hcn (CRL_F h f)) (fun q hq => pf_some ⟨hq.1, OTH_t (OTH_F f) hq.2.1, fun d hd => (hq.2.2 d hd).trans (f.1 d (by omega) (by omega))⟩)
theorem acr_trp (hl : l < 8) (hb : b ≠ c) (hb7 : b ≠ c + 7) (h1 : v b 1 = Int32.ofNat p) (f : RKF c v u) (h : CRL c l D v) : Pf ((d_Cr_trap c b (Int32.ofNat l) u).bind fun q15 => some q15) (ACR c l (ztr p D) v) :=
  pf_bind (CR_tr hl hb (by rw [f.1 b hb hb7]; exact h1) (CRL_F h f)) (fun q hq => pf_some ⟨hq.1, OTH_t (OTH_F f) hq.2.1, fun d hd => (hq.2.2 d hd).trans (f.1 d (by omega) (by omega))⟩)
theorem sgn_59 {c : Int32} (h : c = 59) : xsgn c = false := by rw [h]; decide
theorem sgn_93 {c : Int32} (h : c = 93) : xsgn c = false := by rw [h]; decide
theorem sgn_123 {c : Int32} (h : c = 123) : xsgn c = false := by rw [h]; decide
set_option maxHeartbeats 2000000 in
theorem zca_t (hn : n ≤ 160) (h0 : ∀ j, n ≤ j → s j = 0) (hl : l < 8) (ha : ker a) (hc : crw c) (hb : b = a + 4 + j ∧ j < 80) (hi1 : i1 ≤ 160) (hR : ZR s n a b p nb i1 v) (hX : XS s p e0) (he : s e0 = 59) (h88 : s p ≠ 88) (hin : CIN c inp v) (hD : CRL c l D v) (hcn : D.2.2.2.1 < 2000000000) : Pf (d_Cr_act w c a b (Int32.ofNat l) v) (ACR c l (zac s n inp l p D) v) := by
  have pa : a = 3 ∨ a = 88 := ha
  have pc : c = 174 ∨ c = 187 := hc
  have bc : b ≠ c := by omega
  have bc7 : b ≠ c + 7 := by omega
  obtain ⟨z0, z1, z2, z3⟩ := hR
  have F0 : RKF c v (pd_w v c 9 (0 : Int32)) := RKF_9 RKF_r
  have e9 : pd_w v c 9 (0 : Int32) c 9 = 0 := pd_w_self
  have CE0 : CE (zev inp l D) c l (pd_w v c 9 (0 : Int32)) := CE_F (CE_C hin hD) F0
  have hxs := XS_h hX
  have he59 := sgn_59 he
  have hen : e0 ≤ n := by
    have := lt_n h0 he (by decide)
    omega
  have kk : ∀ u f, RKF c v u → u b f = v b f := fun u f h => by rw [h.1 b bc bc7]
  have one : ∀ (p1 : Nat) (K : Int32) (A : Int32 → xLD), v b 0 = K → K ≠ 4 → K ≠ 2 → ZW s n a b p1 e0 i1 v → zac s n inp l p D = (xw s n (zev inp l D) p1).elim (ztr p D) A → (∀ (x y : Int32) (u : pd_V), xw s n (zev inp l D) p1 = some x → RKF c v u → u c 9 = 0 → Pf (bif !(decide (K = 0)) then bif !(decide (K = (1 : Int32))) then bif !(decide (K = (2 : Int32))) then some u else bif pm_in (d_De_slot (Int32.ofNat l) x) 64 then some (pd_w u (c + 3) ((d_De_slot (Int32.ofNat l) x).toNatClampNeg) y) else none else (d_Cr_put c (Int32.ofNat l) x u).bind fun q12 => some q12 else bif pm_in (d_De_slot (Int32.ofNat l) (v b 5)) 64 then some (pd_w u (c + 2) ((d_De_slot (Int32.ofNat l) (v b 5)).toNatClampNeg) x) else none) (ACR c l (A x) v)) → Pf (d_Cr_act w c a b (Int32.ofNat l) v) (ACR c l (zac s n inp l p D) v) := by
    intro p1 K A hK h4 h2 hW hz hA
    obtain ⟨i, it, w7, w8, w9, -, wl, wi⟩ := hW
    obtain ⟨wi1, -, ev, wx⟩ := wi
    have hev := EX_x (e := zev inp l D) wx hen he59
    unfold d_Cr_act
    refine pf_n (fun _ => ?_) (fun z => absurd (hK.symm.trans z) h4)
    rw [kk _ 7 F0, kk _ 8 F0, w7, w8]
    have wi2 : ∀ t y, it[t]? = some y → pd_w v c 9 (0 : Int32) (a + 2) (i + t) = y.1 ∧ pd_w v c 9 (0 : Int32) (a + 3) (i + t) = y.2 := fun t y hy => by
      rw [pd_w_ne (by omega), pd_w_ne (by omega)]
      exact wi1 t y hy
    refine pf_bind (zck_t hl ha hc wi2 (by omega) wx e9 CE0) (fun q2 h2' => ?_)
    obtain ⟨F2, hcase⟩ := h2'
    have F2' := RKF_t F0 F2
    rw [kk _ 8 F2', kk _ 9 F2', w8, w9]
    refine pf_bind (zck_0 (by omega)) (fun q3 h3 => ?_)
    have h3' : q3.2 = q2.2 := h3
    rw [h3', kk _ 0 F2', hK]
    refine pf_n (fun _ => ?_) (fun z => absurd z h2)
    refine pf_c (fun _ => ?_)
    rcases hcase with ⟨x, x1, x2, x3⟩ | ⟨x1, x3⟩
    · rw [x3, x2]
      have F3 : RKF c v (pd_w q2.2 c 9 ((0 : Int32) ||| 0)) := RKF_9 F2'
      refine pf_d (fun _ => ?_) (fun z => absurd (show pd_w q2.2 c 9 ((0 : Int32) ||| 0) c 9 = 0 by rw [pd_w_self]; decide) z)
      rw [kk _ 0 F3, kk _ 5 F3, hK, hz, ← hev, x1]
      exact hA x q3.1 _ (hev.symm.trans x1) F3 (by rw [pd_w_self]; decide)
    · rw [x3]
      have F3 : RKF c v (pd_w q2.2 c 9 ((1 : Int32) ||| 0)) := RKF_9 F2'
      refine pf_d (fun z => absurd z (by rw [pd_w_self]; decide)) (fun _ => ?_)
      rw [hz, ← hev, x1]
      exact acr_trp hl bc bc7 z1 F3 hD
  rcases z3 with ⟨g, e, g3, g4⟩ | g | ⟨g, r, e, g1, g2, g3, g4, g5⟩ | ⟨g, -⟩ | ⟨g, g5, e, g3, g4⟩ | ⟨g, -⟩
  · have ee : e = e0 := by
      have := XS_O hX g
      rw [g3] at this
      exact congrArg Prod.snd this
    subst ee
    refine one (p + 1) 1 (fun x => zpt x D) (by rw [z0, g]; decide) (by decide) (by decide) g4 (by unfold zac; rw [decide_eq_false (show s p ≠ 82 by rw [g]; decide), decide_eq_true g]; rfl) (fun x y u hx f _ => ?_)
    exact pf_n (fun _ => pf_n (fun z => absurd rfl z) (fun _ => acr_put hl hcn f hD)) (fun z => absurd z (by decide))
  · have ek : v b 0 = 4 := by rw [z0, g]; decide
    unfold d_Cr_act
    refine pf_n (fun z => absurd ek z) (fun _ => pf_some ?_)
    have s1 := CR_st hl hD
    have hz : zac s n inp l p D = zst D := by unfold zac; rw [decide_eq_true g]; rfl
    rw [hz]
    exact ⟨s1.1, s1.2, fun d hd => pd_wa (by omega)⟩
  · have ek : v b 0 = 2 := by rw [z0, g]; decide
    obtain ⟨r', r1, r2, r3, r4⟩ := XS_L hX g
    have er : r' = r := by
      rw [g1] at r1
      exact (congrArg Prod.snd r1).symm
    subst er
    have ee : e = e0 := by
      rw [g4] at r4
      exact congrArg Prod.snd r4
    subst ee
    have hrn : r' ≤ n := by
      have := lt_n h0 g2 (by decide)
      omega
    obtain ⟨i, it1, it2, w7, w8, w9, wl, wi, wj⟩ := g5
    obtain ⟨wi1, -, ev, wx⟩ := wi
    obtain ⟨wj1, -, ev2, wx2⟩ := wj
    have hev := EX_x (e := zev inp l D) wx hrn (sgn_93 g2)
    have hev2 := EX_x (e := zev inp l D) wx2 hen he59
    have hz : zac s n inp l p D = (xw s n (zev inp l D) (p + 2)).elim (ztr p D) (fun i => (xw s n (zev inp l D) (r' + 2)).elim (ztr p D) (fun x => bif decide (d_Mo_beyond i 0 7 = 0) then zsc i.toNatClampNeg x D else ztr p D)) := by
      unfold zac
      rw [decide_eq_false (show s p ≠ 82 by rw [g]; decide), decide_eq_false (show s p ≠ 79 by rw [g]; decide), decide_eq_true g, g1]
      rfl
    rw [hz, ← hev, ← hev2]
    unfold d_Cr_act
    refine pf_n (fun _ => ?_) (fun z => absurd (ek.symm.trans z) (by decide))
    rw [kk _ 7 F0, kk _ 8 F0, w7, w8]
    have wi2 : ∀ t y, it1[t]? = some y → pd_w v c 9 (0 : Int32) (a + 2) (i + t) = y.1 ∧ pd_w v c 9 (0 : Int32) (a + 3) (i + t) = y.2 := fun t y hy => by
      rw [pd_w_ne (by omega), pd_w_ne (by omega)]
      exact wi1 t y hy
    refine pf_bind (zck_t hl ha hc wi2 (by omega) wx e9 CE0) (fun q2 h2' => ?_)
    obtain ⟨F2, hcase⟩ := h2'
    have F2' := RKF_t F0 F2
    rw [kk _ 8 F2', kk _ 9 F2', w8, w9]
    have wj2 : ∀ t y, it2[t]? = some y → q2.2 (a + 2) (i + it1.length + t) = y.1 ∧ q2.2 (a + 3) (i + it1.length + t) = y.2 := fun t y hy => by
      rw [F2'.1 (a + 2) (by omega) (by omega), F2'.1 (a + 3) (by omega) (by omega)]
      exact wj1 t y hy
    have CE2 : CE (zev inp l D) c l q2.2 := CE_F (CE_C hin hD) F2'
    rcases hcase with ⟨x, x1, x2, x3⟩ | ⟨x1, x3⟩
    · refine pf_bind (zck_t hl ha hc wj2 (by omega) wx2 x3 CE2) (fun q3 h3 => ?_)
      obtain ⟨F3, hcase2⟩ := h3
      have F3' := RKF_t F2' F3
      rw [kk _ 0 F3', ek, x1, x2]
      refine pf_n (fun z => absurd rfl z) (fun _ => ?_)
      rw [out_b (k' := 7) (by decide)]
      rcases hcase2 with ⟨y, y1, y2, y3⟩ | ⟨y1, y3⟩
      · rw [y1, y2, y3]
        refine pf_d (fun hb0 => ?_) (fun hb0 => ?_)
        · have b2 := bey0 hb0
          have sl := slot_v (l := l) (x := x) hl (by have := sI_0; have e7 : (7 : Int32).toInt = 7 := by decide
                                                     omega)
          have F4 : RKF c v (pd_w q3.2 c 9 ((0 : Int32) ||| 0)) := RKF_9 F3'
          refine pf_c (fun _ => ?_)
          refine pf_d (fun _ => ?_) (fun z => absurd (show pd_w q3.2 c 9 ((0 : Int32) ||| 0) c 9 = 0 by rw [pd_w_self]; decide) z)
          rw [kk _ 0 F4, ek]
          refine pf_n (fun _ => ?_) (fun z => absurd z (by decide))
          refine pf_n (fun _ => ?_) (fun z => absurd z (by decide))
          refine pf_n (fun z => absurd rfl z) (fun _ => ?_)
          rw [sl.1, cl_nat (by omega)]
          refine pf_c (fun _ => pf_some ?_)
          have s1 := CR_3 (x := y) hl sl.2 (CRL_F hD F4)
          show ACR c l (bif decide (d_Mo_beyond x 0 7 = 0) then zsc x.toNatClampNeg y D else ztr p D) v _
          rw [decide_eq_true hb0]
          exact ⟨s1.1, OTH_t (OTH_F F4) s1.2, fun d hd => by rw [pd_wa (by omega)]; exact F4.1 d (by omega) (by omega)⟩
        · have F4 : RKF c v (pd_w q3.2 c 9 ((0 : Int32) ||| 1)) := RKF_9 F3'
          refine pf_c (fun _ => ?_)
          refine pf_d (fun z => absurd z (by rw [pd_w_self]; decide)) (fun _ => ?_)
          show Pf _ (ACR c l (bif decide (d_Mo_beyond x 0 7 = 0) then zsc x.toNatClampNeg y D else ztr p D) v)
          rw [decide_eq_false hb0]
          exact acr_trp hl bc bc7 z1 F4 hD
      · rw [y1, y3]
        refine pf_b (pf_c (fun _ => ?_)) (pf_c (fun _ => ?_))
        · have F4 : RKF c v (pd_w q3.2 c 9 ((1 : Int32) ||| 0)) := RKF_9 F3'
          exact pf_d (fun z => absurd z (by rw [pd_w_self]; decide)) (fun _ => acr_trp hl bc bc7 z1 F4 hD)
        · have F4 : RKF c v (pd_w q3.2 c 9 ((1 : Int32) ||| 1)) := RKF_9 F3'
          exact pf_d (fun z => absurd z (by rw [pd_w_self]; decide)) (fun _ => acr_trp hl bc bc7 z1 F4 hD)
    · refine pf_bind (zck_9 (by rw [x3]; decide)) (fun q3 h3 => ?_)
      have h3' : q3.2 = q2.2 := h3
      rw [h3', kk _ 0 F2', ek, x1, x3]
      refine pf_n (fun z => absurd rfl z) (fun _ => ?_)
      refine pf_b (pf_c (fun _ => ?_)) (pf_c (fun _ => ?_))
      · have F4 : RKF c v (pd_w q2.2 c 9 ((1 : Int32) ||| 0)) := RKF_9 F2'
        exact pf_d (fun z => absurd z (by rw [pd_w_self]; decide)) (fun _ => acr_trp hl bc bc7 z1 F4 hD)
      · have F4 : RKF c v (pd_w q2.2 c 9 ((1 : Int32) ||| 1)) := RKF_9 F2'
        exact pf_d (fun z => absurd z (by rw [pd_w_self]; decide)) (fun _ => acr_trp hl bc bc7 z1 F4 hD)
  · exact absurd g h88
  · have ee : e = e0 := by
      have := (XS_V hX (xvar_x g 79 (by decide)) (xvar_x g 82 (by decide)) (xvar_x g 76 (by decide)) h88).2
      rw [g3] at this
      exact congrArg Prod.snd this
    subst ee
    have hr := vlet g
    refine one (p + 2) 0 (fun x => zsv (s p - 97).toNatClampNeg x D) (by rw [z0]; exact kF_v g) (by decide) (by decide) g4 (by unfold zac; rw [decide_eq_false (xvar_x g 82 (by decide)), decide_eq_false (xvar_x g 79 (by decide)), decide_eq_false (xvar_x g 76 (by decide))]; rfl) (fun x y u hx f _ => ?_)
    refine pf_n (fun z => absurd rfl z) (fun _ => ?_)
    have sl := slot_v (l := l) (x := s p - 97) hl hr
    rw [g5, sl.1, cl_nat (by omega)]
    refine pf_c (fun _ => pf_some ?_)
    have s1 := CR_2 (x := x) hl sl.2 (CRL_F hD f)
    exact ⟨s1.1, OTH_t (OTH_F f) s1.2, fun d hd => by rw [pd_wa (by omega)]; exact f.1 d (by omega) (by omega)⟩
  · rcases g with g | g
    · exact absurd g hxs.2.1
    · exact absurd g hxs.2.2
end ZCA
