/-! both compile alike -/
section ZCO
variable {s : Nat → Int32} {n w a N q0 : Nat} {v u q : pd_V} {b : Int}
theorem ZPO_N (h0 : ∀ j, n ≤ j → s j = 0) : ∀ (r p : Nat) (k : xK) (x : xLS), n ≤ 160 → xit s r (p, k) = some (n, []) → ZPO x.2.2 → ZPO (xlit s r p k x).2.2 := by
  intro r
  induction r with
  | zero => intro p k x _ _ h; exact h
  | succ r ih =>
    intro p k x hn hx h
    obtain ⟨p1, k1, ns, hx1⟩ := xit_r hx
    have hp := xns_lt h0 ns
    rw [xlit_s ns]
    refine ih p1 k1 _ hn hx1 ?_
    unfold xlk
    cases decide (s p = 125) with
    | true =>
      cases xsec s p k
      · exact h
      · exact h
    | false =>
      cases (decide (s p = 63) || decide (s p = 42)) with
      | true => exact h
      | false =>
        cases decide (s p = 88) with
        | true =>
          show ZPO (bif zun x.2.1 && decide (x.2.2 = -1) then Int32.ofNat p else x.2.2)
          cases (zun x.2.1 && decide (x.2.2 = -1)) with
          | true => exact ZPO_n (by omega)
          | false => exact h
        | false =>
          cases xvar (s p)
          · exact h
          · exact h
theorem ZPO_L (h0 : ∀ j, n ≤ j → s j = 0) (hn : n ≤ 160) (hx : xit s N (0, []) = some (n, [])) : ∀ (r : Nat) (x : Int32 × Int32), ZPO x.2 → ZPO (zit9 (zL s N) r x).2
  | 0, _, h => h
  | r + 1, x, _ => ZPO_L h0 hn hx r (zL s N x.1) (ZPO_N h0 N 0 [] (x.1, [], -1) hn hx ZPO_m)
theorem ZPO_lt {P : Int32} (h : ZPO P) : P < 0 ↔ P = -1 := by
  constructor
  · intro c
    by_cases e : P = -1
    · exact e
    · unfold ZPO at h
      rw [decide_eq_false e] at h
      have h2 := Int32.le_iff_toInt_le.mp (of_decide_eq_true h)
      have h3 := Int32.lt_iff_toInt_lt.mp c
      omega
  · intro e
    rw [e]
    decide
/-- the reference -/
theorem zcm_ok (hw : 4294967296 < w) (hn : n ≤ 160) (h0 : ∀ j, n ≤ j → s j = 0) (hN : N ≤ 80) (hx : xit s N (0, []) = some (n, [])) (hD : DR n s v) (hB : BV v) : Sf (d_Mo_compile w v) (fun q => ZKO (zit9 (zL s N) 9 (0, -1)) (v 201) (v 198 5) q ∧ q.2 199 = v 199) := by
  have D1 : DR n s (pd_w v 198 0 (0 : Int32)) := ⟨by rw [pd_w_nk (by decide)]; exact hD.1, fun j hj => by rw [pd_w_ne (by decide)]; exact hD.2 j hj⟩
  unfold d_Mo_compile
  refine sf_bind (sf_sf (it_t hw hn h0 D1) (zit_t hw hn h0 D1)) (fun r hr => ?_)
  obtain ⟨⟨-, hM⟩, hz⟩ := hr
  rcases hz with ⟨-, q, hq, -⟩ | ⟨r1, -⟩
  · exact absurd hq (fun z => XFl_n h0 ⟨N, hx⟩ z)
  · have e201 : r.2 201 = v 201 := by rw [hM.1 201 (by decide) (by decide) (by decide), pd_wa (by decide)]
    refine sf_n (fun _ => ?_) (fun c => absurd (r1.symm.trans c) (by decide))
    refine sf_mono (zc24 hw hn h0 hN hx (B := v 201) (h5 := v 198 5) hB w 0 r.2 (by omega) (by omega) (DR_P D1 hM) (by rw [hM.2 5 (by decide), pd_w_nk (by decide)]) (fun i hi => absurd hi (Nat.not_lt_zero _)) (fun i _ _ => by rw [e201])) (fun q hq => ⟨hq.1, ?_⟩)
    rw [hq.2, hM.1 199 (by decide) (by decide) (by decide), pd_wa (by decide)]
theorem zcm_no (hw : 4294967296 < w) (hn : n ≤ 160) (h0 : ∀ j, n ≤ j → s j = 0) (hx : XFl s n q0) (hD : DR n s v) : Sf (d_Mo_compile w v) (fun q => (q.1 = 1 ∧ q.2 198 7 = Int32.ofNat q0) ∧ (∀ d, d ≠ 198 → d ≠ 219 → d ≠ 212 → q.2 d = v d) ∧ q.2 198 5 = v 198 5) := by
  have D1 : DR n s (pd_w v 198 0 (0 : Int32)) := ⟨by rw [pd_w_nk (by decide)]; exact hD.1, fun j hj => by rw [pd_w_ne (by decide)]; exact hD.2 j hj⟩
  unfold d_Mo_compile
  refine sf_bind (sf_sf (it_t hw hn h0 D1) (zit_t hw hn h0 D1)) (fun r hr => ?_)
  obtain ⟨⟨-, hM⟩, hz⟩ := hr
  rcases hz with ⟨r0, q, hq, hA⟩ | ⟨-, hW⟩
  · have e := XFl_u hq hx
    subst e
    refine sf_n (fun c => absurd r0 c) (fun _ => sf_some ⟨⟨rfl, ?_⟩, fun d h1 h2 h3 => ?_, ?_⟩)
    · show pd_w r.2 198 7 (r.2 198 6) 198 7 = Int32.ofNat q
      rw [pd_w_self]
      exact hA
    · show pd_w r.2 198 7 (r.2 198 6) d = v d
      rw [pd_wa h1, hM.1 d h1 h2 h3, pd_wa h1]
    · show pd_w r.2 198 7 (r.2 198 6) 198 5 = v 198 5
      rw [pd_w_nk (by decide), hM.2 5 (by decide), pd_w_nk (by decide)]
  · exact absurd hx (fun z => XFl_n h0 hW z)
/-- the class -/
def ZDN (a : Nat) (v q : pd_V) : Prop := (∀ c, c ≠ 0 → c ≠ 1 → c ≠ 87 → ¬ (a ≤ c ∧ c < a + 84) → q c = v c) ∧ (∀ k, k ≠ 3 → q 0 k = v 0 k) ∧ q 1 1 = v 1 1 ∧ q 1 3 = v 1 3
def ZDY (s : Nat → Int32) (n N a : Nat) (X : Int32 × Int32) (v q : pd_V) : Prop := (∀ c, c ≠ 0 → c ≠ 1 → c ≠ 87 → c ≠ 173 → c ≠ 186 → ¬ (a ≤ c ∧ c < a + 84) → q c = v c) ∧ q 0 2 = 1 ∧ kerOf (q 0 1) = a ∧ kerOf (q 1 3) = kerOf (v 0 1) ∧ q 1 1 = v 1 1 ∧ q a 5 = X.1 ∧ q a 3 = Int32.ofNat N ∧ ∃ i1, i1 ≤ n ∧ q a 4 = Int32.ofNat i1 ∧ ∀ i, i < N → ZJ s n a i1 i q
def ZDC (s : Nat → Int32) (n a : Nat) (v : pd_V) (r : Int32 × pd_V) : Prop :=
  (∃ q0, XFl s n q0 ∧ r.1 = 1 ∧ r.2 0 3 = Int32.ofNat q0 ∧ ZDN a v r.2)
  ∨ (∃ N, N ≤ 80 ∧ xit s N (0, []) = some (n, []) ∧ r.2 0 3 = (zit9 (zL s N) 9 (0, -1)).2 ∧
    (((zit9 (zL s N) 9 (0, -1)).2 = -1 ∧ r.1 = 0 ∧ ZDY s n N a (zit9 (zL s N) 9 (0, -1)) v r.2) ∨ ((zit9 (zL s N) 9 (0, -1)).2 ≠ -1 ∧ r.1 = 2 ∧ ZDN a v r.2)))
theorem zde_t (hw : 4294967296 < w) (hn : n ≤ 160) (h0 : ∀ j, n ≤ j → s j = 0) (hD : RD n s v) (hk : kerOf (v 1 3) = a) : Sf (d_De_compile w v) (ZDC s n a v) := by
  have ha : ker a := by rw [← hk]; exact ker_of _
  have pa : a = 3 ∨ a = 88 := ha
  unfold d_De_compile
  refine sf_bind (sf_pf (zrd_t hw hn h0 ha hD hk) (f_read ha (TG_r hk))) (fun q1 h1 => ?_)
  obtain ⟨hz, hT⟩ := h1
  have hT' : TG a v q1.2 := hT
  have nn : ∀ (u : pd_V) (x : Int32), u 0 = q1.2 0 → u 1 = q1.2 1 → (∀ c, c ≠ a → u c = q1.2 c) → ZDN a v (pd_w u 0 3 x) := by
    intro u x e0 e1 ec
    refine ⟨fun c c0 c1 c87 ck => ?_, fun k hk3 => ?_, ?_, ?_⟩
    · rw [pd_wa c0, ec c (by omega)]; exact hT'.2.1 c c1 c87 ck
    · rw [pd_w_nk hk3, e0, hT'.2.1 0 (by decide) (by decide) (by omega)]
    · rw [pd_w_ne (by decide), e1]; exact hT'.2.2.1
    · rw [pd_w_ne (by decide), e1]; exact hT'.2.2.2
  rcases hz with ⟨z0, q0, hq, hA⟩ | ⟨z1, N, hL⟩
  · refine sf_n (fun c => absurd z0 c) (fun _ => sf_some (Or.inl ⟨q0, hq, rfl, ?_, ?_⟩))
    · show pd_w q1.2 0 3 (q1.2 1 2) 0 3 = Int32.ofNat q0
      rw [pd_w_self]
      exact hA
    · exact nn q1.2 _ rfl rfl (fun _ _ => rfl)
  · obtain ⟨⟨-, -, -, l4⟩, l5, -, l7, l8, ⟨i1, l9, l10, l11⟩, -⟩ := hL
    have hN : N ≤ 80 := by omega
    refine sf_n (fun _ => ?_) (fun c => absurd (z1.symm.trans c) (by decide))
    rw [l4]
    refine sf_bind (zfv_t hw hn ha hN l5 l7 l11) (fun q3 h3 => ?_)
    obtain ⟨e3, hV⟩ := h3
    have eW : q3.2 a 5 = (zit9 (zL s N) 9 (0, -1)).1 := congrArg Prod.fst e3
    have eP : q3.1 = (zit9 (zL s N) 9 (0, -1)).2 := congrArg Prod.snd e3
    refine sf_d (fun c => ?_) (fun c => ?_)
    · have x0 : pd_w q3.2 0 3 q3.1 1 3 = q1.2 1 3 := by rw [pd_w_ne (by decide), hV.1 1 (by omega)]
      unfold d_Re_handOver
      refine sf_sb ?_
      refine sf_some (Or.inr ⟨N, hN, l5, ?_, Or.inl ⟨eP.symm.trans c, rfl, ?_⟩⟩)
      · show pd_w (pd_w (pd_w (pd_w (pd_w (pd_w q3.2 0 3 q3.1) 1 3 (kerNo (kerOf (q3.2 0 1)))) 0 1 (kerNo (kerOf (pd_w q3.2 0 3 q3.1 1 3)))) 0 2 (1 : Int32)) 173 1 (0 : Int32)) 186 1 (0 : Int32) 0 3 = _
        rw [pd_w_ne (by decide), pd_w_ne (by decide), pd_w_nk (by decide), pd_w_nk (by decide), pd_w_ne (by decide), pd_w_self]
        exact eP
      · show ZDY s n N a (zit9 (zL s N) 9 (0, -1)) v (pd_w (pd_w (pd_w (pd_w (pd_w (pd_w q3.2 0 3 q3.1) 1 3 (kerNo (kerOf (q3.2 0 1)))) 0 1 (kerNo (kerOf (pd_w q3.2 0 3 q3.1 1 3)))) 0 2 (1 : Int32)) 173 1 (0 : Int32)) 186 1 (0 : Int32))
        have far : ∀ c, c ≠ 0 → c ≠ 1 → c ≠ 173 → c ≠ 186 → pd_w (pd_w (pd_w (pd_w (pd_w (pd_w q3.2 0 3 q3.1) 1 3 (kerNo (kerOf (q3.2 0 1)))) 0 1 (kerNo (kerOf (pd_w q3.2 0 3 q3.1 1 3)))) 0 2 (1 : Int32)) 173 1 (0 : Int32)) 186 1 (0 : Int32) c = q3.2 c := by
          intro c c0 c1 c173 c186
          rw [pd_wa c186, pd_wa c173, pd_wa c0, pd_wa c0, pd_wa c1, pd_wa c0]
        refine ⟨fun c c0 c1 c87 c173 c186 ck => ?_, ?_, ?_, ?_, ?_, ?_, ?_, i1, l10, ?_, fun i hi => ?_⟩
        · rw [far c c0 c1 c173 c186, hV.1 c (by omega)]; exact hT'.2.1 c c1 c87 ck
        · rw [pd_w_ne (by decide), pd_w_ne (by decide), pd_w_self]
        · rw [pd_w_ne (by decide), pd_w_ne (by decide), pd_w_nk (by decide), pd_w_self, x0, l4]
          exact kerOf_no ha
        · rw [pd_w_ne (by decide), pd_w_ne (by decide), pd_w_ne (by decide), pd_w_ne (by decide), pd_w_self, kerOf_no (ker_of _), hV.1 0 (by omega), hT'.2.1 0 (by decide) (by decide) (by omega)]
        · rw [pd_w_ne (by decide), pd_w_ne (by decide), pd_w_ne (by decide), pd_w_ne (by decide), pd_w_nk (by decide), pd_w_ne (by decide), hV.1 1 (by omega)]
          exact hT'.2.2.1
        · rw [far a (by omega) (by omega) (by omega) (by omega)]; exact eW
        · rw [far a (by omega) (by omega) (by omega) (by omega), hV.2 3 (by decide)]; exact l7
        · rw [far a (by omega) (by omega) (by omega) (by omega), hV.2 4 (by decide)]; exact l9
        · refine ZJ_f (ZJ_V ha (l11 i hi) hV) (Nat.le_refl _) (fun f _ _ => ?_) (fun t _ => ?_)
          · rw [far (a + 4 + i) (by omega) (by omega) (by omega) (by omega)]
          · rw [far (a + 2) (by omega) (by omega) (by omega) (by omega), far (a + 3) (by omega) (by omega) (by omega) (by omega)]
            exact ⟨rfl, rfl⟩
    · refine sf_some (Or.inr ⟨N, hN, l5, ?_, Or.inr ⟨fun z => c (eP.trans z), rfl, ?_⟩⟩)
      · show pd_w q3.2 0 3 q3.1 0 3 = _
        rw [pd_w_self]
        exact eP
      · exact nn q3.2 _ (hV.1 0 (by omega)) (hV.1 1 (by omega)) (fun c hc => hV.1 c hc)
end ZCO
