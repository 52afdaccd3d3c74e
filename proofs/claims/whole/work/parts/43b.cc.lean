/-! the class goes the text's way -/
/-- the kernel that runs -/
def KNL (s : Nat → Int32) (n N i1 a : Nat) (v : pd_V) : Prop := v a 3 = Int32.ofNat N ∧ (∀ i, i < N → ZJ s n a i1 i v) ∧ ZN s N a v
/-- the class stands at row j -/
def TSt (s : Nat → Int32) (inp : Nat → Int32) (j : Nat) (X : xCS) (v : pd_V) : Prop := xit s j (0, []) = some (X.1, X.2.1) ∧ v 173 6 = Int32.ofNat j ∧ MK8 X.2.2.1 (v 173 3) ∧ (∀ i, i < 4 → MK8 (X.2.2.2.1 i) (v 184 i)) ∧ (∀ i, i < X.2.1.length → MK8 (X.2.2.2.2.1 i) (v 185 i)) ∧ CRS 174 inp X.2.2.2.2.2 v
section ZCC
variable {s : Nat → Int32} {n m w p q j e c o h r N i1 a b : Nat} {k k0 : xK} {X Y : xCS} {inp : Nat → Int32} {v u t : pd_V} {x y : Int32} {DD : Nat → xLD}
theorem CRS_3 {k : Nat} (h : CRS 174 inp DD v) (d : Nat) (hd : d = 173 ∨ d = 184 ∨ d = 185) : CRS 174 inp DD (pd_w v d k x) := by
  refine ⟨fun j hj => by rw [pd_w_ne (by omega)]; exact h.1 j hj, fun l hl => ?_⟩
  have g := h.2 l hl
  exact ⟨fun j hj => by rw [pd_w_ne (by omega)]; exact g.1 j hj, fun j hj => by rw [pd_w_ne (by omega)]; exact g.2.1 j hj, fun j hj hc => by rw [pd_w_ne (by omega)]; exact g.2.2.1 j hj hc, by rw [pd_w_ne (by omega)]; exact g.2.2.2.1, by rw [pd_w_ne (by omega)]; exact g.2.2.2.2.1, by rw [pd_w_ne (by omega)]; exact g.2.2.2.2.2⟩
theorem KNL_q (ha : ker a) (hN : N ≤ 80) (h : KNL s n N i1 a v) (e : ∀ d, d < 172 → u d = v d) : KNL s n N i1 a u := by
  have pa : a = 3 ∨ a = 88 := ha
  refine ⟨by rw [e a (by omega)]; exact h.1, fun i hi => ZJ_f (h.2.1 i hi) (Nat.le_refl _) (fun f _ _ => by rw [e _ (by omega)]) (fun t _ => by rw [e _ (by omega), e _ (by omega)]; exact ⟨rfl, rfl⟩), ZN_t h.2.2 (fun r hr => e _ (by omega))⟩
theorem xit_up1 (h0 : ∀ j, n ≤ j → s j = 0) (hx : xit s N (0, []) = some (n, [])) (hj : xit s j (0, []) = some (p, k)) : j ≤ N ∧ (j < N ↔ p < n) := by
  rcases Nat.lt_trichotomy j N with c | c | c
  · exact ⟨by omega, ⟨fun _ => by have := xit_up _ _ _ (xit_sp hj hx (by omega)); omega, fun _ => c⟩⟩
  · subst c
    rw [hx] at hj
    have e : n = p := congrArg Prod.fst (Option.some.inj hj)
    exact ⟨by omega, by omega⟩
  · exfalso
    have h1 := xit_sp hx hj (by omega)
    rw [show j - N = (j - N - 1) + 1 by omega] at h1
    obtain ⟨p1, k1, ns, -⟩ := xit_rr h1
    have := xns_lt h0 ns
    omega
/-- one statement -/
theorem zsu_t (hw : 4294967296 < w) (hn : n ≤ 160) (h0 : ∀ j, n ≤ j → s j = 0) (ha : ker a) (hN : N ≤ 80) (hi1 : i1 ≤ 160) (hj : j < N) (hx1 : ∃ p' k', xit s (j + 1) (0, []) = some (p', k')) (hK : KNL s n N i1 a v) (hT : TSt s inp j X v) (h7 : ¬ (s X.1 = 125 ∧ X.2.1 ≠ [])) (hcn : ∀ x, x < 8 → (X.2.2.2.2.2 x).2.2.2.1 < 2000000000) : Pf (d_To_issue w a (a + 4 + j) v) (fun q => TSt s inp (j + 1) (zsu s n inp X) q ∧ q 173 4 = v 173 4 + 1 ∧ q 173 5 = v 173 5 + zpc X.2.2.1 ∧ q 173 1 = v 173 1 ∧ q 173 2 = v 173 2) := by
  have pa : a = 3 ∨ a = 88 := ha
  obtain ⟨p, k, f, B, W, DD⟩ := X
  obtain ⟨t1, t2, t3, t4, t5, t6⟩ := hT
  obtain ⟨p', k', hx1⟩ := hx1
  have t1 : xit s j (0, []) = some (p, k) := t1
  have t3 : MK8 f (v 173 3) := t3
  have t4 : ∀ i, i < 4 → MK8 (B i) (v 184 i) := t4
  have t5 : ∀ i, i < k.length → MK8 (W i) (v 185 i) := t5
  have t6 : CRS 174 inp DD v := t6
  have h7 : ¬ (s p = 125 ∧ k ≠ []) := h7
  have hcn : ∀ x, x < 8 → (DD x).2.2.2.1 < 2000000000 := hcn
  have ns : xns s p k = (true, p', k') := by
    have h1 := xit_sp t1 hx1 (by omega)
    rw [show j + 1 - j = 1 by omega] at h1
    exact xit_1 h1
  obtain ⟨p0, kk, hz1, hz⟩ := hK.2.1 j hj
  have e0 := Option.some.inj (hz1.symm.trans t1)
  have e1 : p0 = p := congrArg Prod.fst e0
  have e2 : kk = k := congrArg Prod.snd e0
  subst e1 e2
  have hR : ZR s n a (a + 4 + j) p0 kk.length i1 v := by
    rcases hz with ⟨-, h⟩ | ⟨h, h', m, k0, e, -⟩
    · exact h
    · exact absurd ⟨h, by rw [e]; exact fun z => nomatch z⟩ h7
  have k4 : kk.length ≤ 4 := xSI_4 (xR_SI ⟨j, t1⟩)
  have bne : a + 4 + j ≠ 173 := by omega
  have row : ∀ (x y : Int32) f, pd_w (pd_w v 173 4 x) 173 5 y (a + 4 + j) f = v (a + 4 + j) f := fun x y f => by rw [pd_w_ne bne, pd_w_ne bne]
  have C2 : CRS 174 inp DD (pd_w (pd_w v 173 4 ((v 173 4) + (1 : Int32))) 173 5 ((v 173 5) + (d_Int_bitCount (v 173 3)))) := CRS_3 (CRS_3 t6 173 (Or.inl rfl)) 173 (Or.inl rfl)
  have M2 : MK8 f (pd_w (pd_w v 173 4 ((v 173 4) + (1 : Int32))) 173 5 ((v 173 5) + (d_Int_bitCount (v 173 3))) 173 3) := by rw [pd_w_nk (by decide), pd_w_nk (by decide)]; exact t3
  have bc := bc_m t3
  have ebk : ∀ d, d ≠ 173 → pd_w (pd_w v 173 4 ((v 173 4) + (1 : Int32))) 173 5 ((v 173 5) + (d_Int_bitCount (v 173 3))) d = v d := fun d hd => by rw [pd_wa hd, pd_wa hd]
  have u4 : pd_w (pd_w v 173 4 ((v 173 4) + (1 : Int32))) 173 5 ((v 173 5) + (d_Int_bitCount (v 173 3))) 173 4 = v 173 4 + 1 := by rw [pd_w_nk (by decide), pd_w_self]
  have u5 : pd_w (pd_w v 173 4 ((v 173 4) + (1 : Int32))) 173 5 ((v 173 5) + (d_Int_bitCount (v 173 3))) 173 5 = v 173 5 + zpc f := by rw [pd_w_self, bc]
  have uk : ∀ i, i ≠ 4 → i ≠ 5 → pd_w (pd_w v 173 4 ((v 173 4) + (1 : Int32))) 173 5 ((v 173 5) + (d_Int_bitCount (v 173 3))) 173 i = v 173 i := fun i a b => by rw [pd_w_nk b, pd_w_nk a]
  unfold d_To_issue
  rw [row]
  generalize hu : pd_w (pd_w v 173 4 ((v 173 4) + (1 : Int32))) 173 5 ((v 173 5) + (d_Int_bitCount (v 173 3))) = u at *
  have hRu : ZR s n a (a + 4 + j) p0 kk.length i1 u := ZR_q hR (ebk _ (by omega)) (ebk _ (by omega)) (ebk _ (by omega))
  have close : ∀ (t : pd_V) (f' g : Nat → Bool) (B' W' : Nat → Nat → Bool) (DD' : Nat → xLD), MK8 g (t 173 3) → CRS 174 inp DD' t → (∀ i, i ≠ 3 → t 173 i = u 173 i) → (∀ i, i < 4 → MK8 (B' i) (t 184 i)) → (∀ i, i < k'.length → MK8 (W' i) (t 185 i)) → TSt s inp (j + 1) (p', k', zgo g DD', B', W', DD') (pd_w (pd_w t 173 3 ((t 173 3) &&& ((t 174 10) ^^^ (-1 : Int32)))) 173 6 ((t 173 6) + (1 : Int32))) ∧ pd_w (pd_w t 173 3 ((t 173 3) &&& ((t 174 10) ^^^ (-1 : Int32)))) 173 6 ((t 173 6) + (1 : Int32)) 173 4 = v 173 4 + 1 ∧ pd_w (pd_w t 173 3 ((t 173 3) &&& ((t 174 10) ^^^ (-1 : Int32)))) 173 6 ((t 173 6) + (1 : Int32)) 173 5 = v 173 5 + zpc f ∧ pd_w (pd_w t 173 3 ((t 173 3) &&& ((t 174 10) ^^^ (-1 : Int32)))) 173 6 ((t 173 6) + (1 : Int32)) 173 1 = v 173 1 ∧ pd_w (pd_w t 173 3 ((t 173 3) &&& ((t 174 10) ^^^ (-1 : Int32)))) 173 6 ((t 173 6) + (1 : Int32)) 173 2 = v 173 2 := by
    intro t _ g B' W' DD' g1 g2 g3 g4 g5
    refine ⟨⟨hx1, ?_, ?_, fun i hi => ?_, fun i hi => ?_, CRS_3 (CRS_3 g2 173 (Or.inl rfl)) 173 (Or.inl rfl)⟩, ?_, ?_, ?_, ?_⟩
    · rw [pd_w_self, g3 6 (by decide), uk 6 (by decide) (by decide), t2, ofN1]
    · rw [pd_w_nk (by decide), pd_w_self]
      exact MK8_g g1 (fun l hl => (g2.2 l hl).2.2.2.2.2)
    · rw [pd_w_ne (by decide), pd_w_ne (by decide)]; exact g4 i hi
    · rw [pd_w_ne (by decide), pd_w_ne (by decide)]; exact g5 i hi
    · rw [pd_w_nk (by decide), pd_w_nk (by decide), g3 4 (by decide)]; exact u4
    · rw [pd_w_nk (by decide), pd_w_nk (by decide), g3 5 (by decide)]; exact u5
    · rw [pd_w_nk (by decide), pd_w_nk (by decide), g3 1 (by decide)]; exact uk 1 (by decide) (by decide)
    · rw [pd_w_nk (by decide), pd_w_nk (by decide), g3 2 (by decide)]; exact uk 2 (by decide) (by decide)
  obtain ⟨z0, z1, z2, z3⟩ := hR
  have hRu' := hRu
  obtain ⟨-, y1, y2, -⟩ := hRu
  have head : (s p0 = 63 ∨ s p0 = 42) → Pf ((d_To_part w a (a + 4 + j) u).bind fun q3 => some (pd_w (pd_w q3 173 3 ((q3 173 3) &&& ((q3 174 10) ^^^ (-1 : Int32)))) 173 6 ((q3 173 6) + (1 : Int32)))) (fun q => TSt s inp (j + 1) (zsu s n inp (p0, kk, f, B, W, DD)) q ∧ q 173 4 = v 173 4 + 1 ∧ q 173 5 = v 173 5 + zpc f ∧ q 173 1 = v 173 1 ∧ q 173 2 = v 173 2) := by
    intro hs
    obtain ⟨r, g1, g2, g3, g4, g5⟩ : ∃ r, xE s (p0 + 1) = (true, r) ∧ kk.length < 4 ∧ s r = 123 ∧ p' = r + 1 ∧ k' = (p0, bif decide (s p0 = 63) then 1 else 0) :: kk := by
      rcases xns_c ns with ⟨t, -⟩ | ⟨-, r, g⟩ | ⟨e, -, -, -, -, -, t⟩
      · rcases hs with t2 | t2 <;> (rw [t2] at t; exact absurd t (by decide))
      · exact ⟨r, g⟩
      · have := XS_h t
        rcases hs with t2 | t2
        · exact absurd t2 this.2.1
        · exact absurd t2 this.2.2
    have hW : ZW s n a (a + 4 + j) (p0 + 1) r i1 u := by
      rcases z3 with ⟨g, -⟩ | g | ⟨g, -⟩ | ⟨g, -⟩ | ⟨g, -⟩ | ⟨-, e, d1, d2⟩
      · rcases hs with t2 | t2 <;> (rw [t2] at g; exact absurd g (by decide))
      · rcases hs with t2 | t2 <;> (rw [t2] at g; exact absurd g (by decide))
      · rcases hs with t2 | t2 <;> (rw [t2] at g; exact absurd g (by decide))
      · rcases hs with t2 | t2 <;> (rw [t2] at g; exact absurd g (by decide))
      · rcases hs with t2 | t2
        · exact absurd t2 (xvar_x g 63 (by decide))
        · exact absurd t2 (xvar_x g 42 (by decide))
      · rw [g1] at d1
        have : r = e := congrArg Prod.snd d1
        rw [this]
        exact ZW_q d2 (ebk _ (by omega)) (ebk _ (by omega)) (ebk _ (by omega))
    have hrn : r < n := lt_n h0 g3 (by decide)
    unfold d_To_part
    refine pf_bind (zpa_m (p := p0) (p1 := p0 + 1) (DD := DD) (f := f) hw hn ha ⟨rfl, by omega⟩ hi1 (by omega) (sgn_123 g3) (show kk.length ≤ 3 by omega) w 0 0 u (by omega) y1 y2 hW M2 (by rw [zup_0]; exact C2) (MK8_e MK8_0 (fun x _ => by rw [blt_f (Nat.not_lt_zero x)]; rfl))) (fun q3 h3 => ?_)
    obtain ⟨u3, L3, w1, w2, w3, w4⟩ := h3
    have f3 : ∀ d, (d < 174 ∨ 184 ≤ d) → u3 d = u d := fun d hd => w4 d hd
    have hz : zsu s n inp (p0, kk, f, B, W, DD) = (p', k', zgo (fun x => f x && !(decide ((zdc s n inp x p0 (p0 + 1) (DD x)).1 = 0))) (zup f (fun x D => (zdc s n inp x p0 (p0 + 1) D).2) DD 8), zlv B kk.length (fun x => B kk.length x || f x), zlv W kk.length (fun x => f x && !(f x && !(decide ((zdc s n inp x p0 (p0 + 1) (DD x)).1 = 0)))), zup f (fun x D => (zdc s n inp x p0 (p0 + 1) D).2) DD 8) := by
      unfold zsu
      have c2 : (decide (s p0 = 63) || decide (s p0 = 42)) = true := by rcases hs with h | h <;> (rw [h]; decide)
      show (bif decide (s p0 = 63) || decide (s p0 = 42) then _ else _) = _
      rw [c2, ns]
      rfl
    rw [hz]
    refine pf_some ?_
    have m3 : MK8 f (u3 173 3) := by rw [f3 173 (by omega)]; exact M2
    rw [w1]
    refine close _ f (fun x => f x && !(decide ((zdc s n inp x p0 (p0 + 1) (DD x)).1 = 0))) _ _ _ ?_ ?_ (fun i hi => ?_) (fun i hi => ?_) (fun i hi => ?_)
    · rw [pd_w_self]; exact w2
    · exact CRS_3 (CRS_3 (CRS_3 w3 184 (by omega)) 185 (by omega)) 173 (by omega)
    · rw [pd_w_nk hi, pd_w_ne (by decide), pd_w_ne (by decide), f3 173 (by omega)]
    · rw [pd_w_ne (by decide), pd_w_ne (by decide)]
      unfold zlv
      by_cases z : i = kk.length
      · rw [z, pd_w_self, Nat.beq_refl]
        show MK8 (fun x => B kk.length x || f x) _
        intro x
        rw [zbt_or, m3 x, f3 184 (by omega), ebk 184 (by decide), t4 kk.length (by omega) x]
        cases decide (x < 8) <;> rfl
      · rw [pd_w_nk z, beq_f z, f3 184 (by omega), ebk 184 (by decide)]
        exact t4 i hi
    · rw [pd_w_ne (by decide)]
      unfold zlv
      by_cases z : i = kk.length
      · rw [z, pd_w_self, Nat.beq_refl]
        show MK8 (fun x => f x && !(f x && !(decide ((zdc s n inp x p0 (p0 + 1) (DD x)).1 = 0)))) _
        intro x
        rw [zbt_and, zbt_not, m3 x, w2 x]
        by_cases c8 : x < 8
        · rw [decide_eq_true c8, decide_eq_true (show x < 32 by omega)]
          rfl
        · rw [decide_eq_false c8]
          rfl
      · have hlt : i < kk.length := by
          rw [g5] at hi
          have hi' : i < kk.length + 1 := hi
          omega
        rw [pd_w_nk z, pd_w_ne (by decide), beq_f z, f3 185 (by omega), ebk 185 (by decide)]
        exact t5 i hlt
  have simp1 : s p0 ≠ 125 → s p0 ≠ 63 → s p0 ≠ 42 → ∃ e0, p' = e0 + 1 ∧ k' = kk ∧ s e0 = 59 ∧ XS s p0 e0 := by
    intro c125 c63 c42
    rcases xns_c ns with ⟨t, -⟩ | ⟨t | t, -⟩ | ⟨e0, g1, g2, g3, -, -, g6⟩
    · exact absurd t c125
    · exact absurd t c63
    · exact absurd t c42
    · exact ⟨e0, g1, g2, g3, g6⟩
  have plain : s p0 ≠ 125 → s p0 ≠ 63 → s p0 ≠ 42 → s p0 ≠ 88 → Pf (d_To_issue_78 w w a (a + 4 + j) (0 : Int32) u) (fun q => TSt s inp (j + 1) (zsu s n inp (p0, kk, f, B, W, DD)) q ∧ q 173 4 = v 173 4 + 1 ∧ q 173 5 = v 173 5 + zpc f ∧ q 173 1 = v 173 1 ∧ q 173 2 = v 173 2) := by
    intro c125 c63 c42 c88
    obtain ⟨e0, g1, g2, g3, g6⟩ := simp1 c125 c63 c42
    have hz : zsu s n inp (p0, kk, f, B, W, DD) = (p', k', zgo f (zup f (fun x => zac s n inp x p0) DD 8), B, W, zup f (fun x => zac s n inp x p0) DD 8) := by
      unfold zsu
      show (bif decide (s p0 = 63) || decide (s p0 = 42) then _ else bif decide (s p0 = 88) then _ else _) = _
      rw [decide_eq_false c63, decide_eq_false c42, decide_eq_false c88, ns]
      rfl
    rw [hz]
    refine pf_mono (zci_m (f := f) (DD := DD) hw hn h0 ha ⟨rfl, by omega⟩ hi1 g6 g3 c88 hcn w 0 u (by omega) hRu' M2 (by rw [zup_0]; exact C2)) (fun q hq => ?_)
    obtain ⟨u3, w1, w3, w4⟩ := hq
    have f3 : ∀ d, (d < 174 ∨ 184 ≤ d) → u3 d = u d := fun d hd => w4 d hd
    rw [w1]
    refine close u3 f f B W _ (by rw [f3 173 (by omega)]; exact M2) w3 (fun i hi => by rw [f3 173 (by omega)]) (fun i hi => ?_) (fun i hi => ?_)
    · rw [f3 184 (by omega), ebk 184 (by decide)]; exact t4 i hi
    · rw [f3 185 (by omega), ebk 185 (by decide)]; exact t5 i (by rw [g2] at hi; exact hi)
  have kf := z0
  rcases z3 with ⟨g, -⟩ | g | ⟨g, -⟩ | ⟨g, x5, x6, e, x3, x4⟩ | ⟨g, -⟩ | ⟨g, -⟩
  · have ek : v (a + 4 + j) 0 = 1 := by rw [kf, g]; decide
    rw [ek]
    refine pf_d (fun z => absurd z (by decide)) (fun _ => pf_n (fun _ => pf_n (fun _ => ?_) (fun z => absurd z (by decide))) (fun z => absurd z (by decide)))
    exact plain (by rw [g]; decide) (by rw [g]; decide) (by rw [g]; decide) (by rw [g]; decide)
  · have ek : v (a + 4 + j) 0 = 4 := by rw [kf, g]; decide
    rw [ek]
    refine pf_d (fun z => absurd z (by decide)) (fun _ => pf_n (fun _ => pf_n (fun _ => ?_) (fun z => absurd z (by decide))) (fun z => absurd z (by decide)))
    exact plain (by rw [g]; decide) (by rw [g]; decide) (by rw [g]; decide) (by rw [g]; decide)
  · have ek : v (a + 4 + j) 0 = 2 := by rw [kf, g]; decide
    rw [ek]
    refine pf_d (fun z => absurd z (by decide)) (fun _ => pf_n (fun _ => pf_n (fun _ => ?_) (fun z => absurd z (by decide))) (fun z => absurd z (by decide)))
    exact plain (by rw [g]; decide) (by rw [g]; decide) (by rw [g]; decide) (by rw [g]; decide)
  · have ek : v (a + 4 + j) 0 = 3 := by rw [kf, g]; decide
    have c125 : s p0 ≠ 125 := by rw [g]; decide
    have c63 : s p0 ≠ 63 := by rw [g]; decide
    have c42 : s p0 ≠ 42 := by rw [g]; decide
    rw [ek]
    refine pf_d (fun z => absurd z (by decide)) (fun _ => pf_n (fun _ => pf_n (fun z => absurd rfl z) (fun _ => ?_)) (fun z => absurd z (by decide)))
    obtain ⟨e0, g1, g2, g3, g6⟩ := simp1 c125 c63 c42
    obtain ⟨v1, v2, hE⟩ := XS_X g6 g
    have ee : e = e0 := by
      rw [x3] at hE
      exact congrArg Prod.snd hE
    subst ee
    have hen : e < n := lt_n h0 g3 (by decide)
    obtain ⟨iv, iv1, iv2⟩ := vcaseN v1
    obtain ⟨iw, iw1, iw2⟩ := vcaseN v2
    have hz : zsu s n inp (p0, kk, f, B, W, DD) = (p', k', zgo f (zexc s n inp p0 iv iw f DD), B, W, zexc s n inp p0 iv iw f DD) := by
      unfold zsu
      show (bif decide (s p0 = 63) || decide (s p0 = 42) then _ else bif decide (s p0 = 88) then _ else _) = _
      rw [decide_eq_false c63, decide_eq_false c42, decide_eq_true g, ns, iv2, iw2, cl_nat (show iv ≤ 1000 by omega), cl_nat (show iw ≤ 1000 by omega)]
      rfl
    rw [hz]
    unfold d_Cr_exchange
    have hWu : ZW s n a (a + 4 + j) (p0 + 3) e i1 u := ZW_q x4 (ebk _ (by omega)) (ebk _ (by omega)) (ebk _ (by omega))
    have hx := zxc_m (w := w) (inp := inp) (DD := DD) hw hn ha crw_174 ⟨rfl, by omega⟩ hi1 (by omega) (sgn_59 g3) iv1 iw1 t3 w 0 u (by omega) y1 (by rw [ebk _ (by omega), x5, iv2]) (by rw [ebk _ (by omega), x6, iw2]) hWu (by rw [zup_0]; exact C2) (fun x hx => absurd hx (Nat.not_lt_zero _))
    have fr : Pf (d_Cr_exchange_3 w w 174 a (a + 4 + j) (v 173 3) 0 u) (fun q => RB 174 u q) := pf_sf (t_Cr_exchange (l3 := v 173 3) (v := u) hw crw_174 ha (show stp (a + 4 + j) by unfold stp; omega))
    refine pf_bind (pf_and fr hx) (fun q6 h6 => pf_some ?_)
    obtain ⟨⟨hF, -⟩, hC⟩ := h6
    have f3 : ∀ d, (d < 174 ∨ 184 ≤ d) → q6 d = u d := fun d hd => hF d (by omega)
    refine close q6 f f B W _ (by rw [f3 173 (by omega)]; exact M2) hC (fun i hi => by rw [f3 173 (by omega)]) (fun i hi => ?_) (fun i hi => ?_)
    · rw [f3 184 (by omega), ebk 184 (by decide)]; exact t4 i hi
    · rw [f3 185 (by omega), ebk 185 (by decide)]; exact t5 i (by rw [g2] at hi; exact hi)
  · have ek : v (a + 4 + j) 0 = 0 := by rw [kf]; exact kF_v g
    rw [ek]
    refine pf_d (fun z => absurd z (by decide)) (fun _ => pf_n (fun _ => pf_n (fun _ => ?_) (fun z => absurd z (by decide))) (fun z => absurd z (by decide)))
    exact plain (xvar_x g 125 (by decide)) (xvar_x g 63 (by decide)) (xvar_x g 42 (by decide)) (xvar_x g 88 (by decide))
  · rcases g with g | g
    · have ek : v (a + 4 + j) 0 = 5 := by rw [kf, g]; decide
      rw [ek]
      exact pf_d (fun _ => head (Or.inl g)) (fun z => absurd rfl z)
    · have ek : v (a + 4 + j) 0 = 6 := by rw [kf, g]; decide
      rw [ek]
      exact pf_d (fun z => absurd z (by decide)) (fun _ => pf_n (fun z => absurd rfl z) (fun _ => head (Or.inr g)))
end ZCC
