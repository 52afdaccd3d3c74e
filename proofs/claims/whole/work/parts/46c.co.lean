/-! compile in both -/
section YCO
variable {s : Nat → Int32} {n m w N i1 a FU i : Nat} {inp : Nat → Int32} {v u q t : pd_V} {b : Int}
theorem yde_t (hw : 4294967296 < w) (hn : n ≤ 160) (h0 : ∀ j, n ≤ j → s j = 0) (hD : RD n s v) (hk : kerOf (v 1 3) = a) : Pf (d_De_compile w v) (fun r => (r.1 = 0 ∧ (∃ N i1, N ≤ 80 ∧ xit s N (0, []) = some (n, []) ∧ i1 ≤ n ∧ KNL s n N i1 a r.2 ∧ zL s N (r.2 a 5) = (r.2 a 5, -1)) ∧ kerOf (r.2 0 1) = a ∧ r.2 173 1 = 0 ∧ r.2 186 1 = 0 ∧ r.2 0 5 = v 0 5 ∧ (∀ c, 172 ≤ c → c ≠ 173 → c ≠ 186 → r.2 c = v c)) ∨ (r.1 ≠ 0 ∧ ZDN a v r.2)) := by
  have ha : ker a := by rw [← hk]; exact ker_of _
  have pa : a = 3 ∨ a = 88 := ha
  unfold d_De_compile
  refine pf_bind (pf_and (pf_sf (zrd_t hw hn h0 ha hD hk)) (f_read ha (TG_r hk))) (fun q1 h1 => ?_)
  obtain ⟨hz, hT⟩ := h1
  have hT' : TG a v q1.2 := hT
  have nn : ∀ (u : pd_V) (x : Int32), u 0 = q1.2 0 → u 1 = q1.2 1 → (∀ c, c ≠ a → u c = q1.2 c) → ZDN a v (pd_w u 0 3 x) := by
    intro u x e0 e1 ec
    refine ⟨fun c c0 c1 c87 ck => ?_, fun k hk3 => ?_, ?_, ?_⟩
    · rw [pd_wa c0, ec c (by omega)]; exact hT'.2.1 c c1 c87 ck
    · rw [pd_w_nk hk3, e0, hT'.2.1 0 (by decide) (by decide) (by omega)]
    · rw [pd_w_ne (by decide), e1]; exact hT'.2.2.1
    · rw [pd_w_ne (by decide), e1]; exact hT'.2.2.2
  rcases hz with ⟨z0, q0, hq, hA⟩ | ⟨z1, N, hL⟩
  · exact pf_n (fun c => absurd z0 c) (fun _ => pf_some (Or.inr ⟨show (1 : Int32) ≠ 0 by decide, nn q1.2 _ rfl rfl (fun _ _ => rfl)⟩))
  · obtain ⟨⟨-, -, -, l4⟩, l5, -, l7, l8, ⟨i1, l9, l10, l11⟩, l12⟩ := hL
    have l12 : ZN s N a q1.2 := l12
    have hN : N ≤ 80 := by omega
    refine pf_n (fun _ => ?_) (fun c => absurd (z1.symm.trans c) (by decide))
    rw [l4]
    refine pf_bind (pf_sf (zfv_t hw hn ha hN l5 l7 l11)) (fun q3 h3 => ?_)
    obtain ⟨e3, hV⟩ := h3
    have eW : q3.2 a 5 = (zit9 (zL s N) 9 (0, -1)).1 := congrArg Prod.fst e3
    have eP : q3.1 = (zit9 (zL s N) 9 (0, -1)).2 := congrArg Prod.snd e3
    refine pf_d (fun c => ?_) (fun c => ?_)
    · have x0 : pd_w q3.2 0 3 q3.1 1 3 = q1.2 1 3 := by rw [pd_w_ne (by decide), hV.1 1 (by omega)]
      unfold d_Re_handOver
      refine pf_sb ?_
      refine pf_some (Or.inl ⟨rfl, ?_⟩)
      show (∃ N i1, N ≤ 80 ∧ xit s N (0, []) = some (n, []) ∧ i1 ≤ n ∧ KNL s n N i1 a (pd_w (pd_w (pd_w (pd_w (pd_w (pd_w q3.2 0 3 q3.1) 1 3 (kerNo (kerOf (q3.2 0 1)))) 0 1 (kerNo (kerOf (pd_w q3.2 0 3 q3.1 1 3)))) 0 2 (1 : Int32)) 173 1 (0 : Int32)) 186 1 (0 : Int32)) ∧ zL s N ((pd_w (pd_w (pd_w (pd_w (pd_w (pd_w q3.2 0 3 q3.1) 1 3 (kerNo (kerOf (q3.2 0 1)))) 0 1 (kerNo (kerOf (pd_w q3.2 0 3 q3.1 1 3)))) 0 2 (1 : Int32)) 173 1 (0 : Int32)) 186 1 (0 : Int32)) a 5) = ((pd_w (pd_w (pd_w (pd_w (pd_w (pd_w q3.2 0 3 q3.1) 1 3 (kerNo (kerOf (q3.2 0 1)))) 0 1 (kerNo (kerOf (pd_w q3.2 0 3 q3.1 1 3)))) 0 2 (1 : Int32)) 173 1 (0 : Int32)) 186 1 (0 : Int32)) a 5, -1)) ∧ kerOf ((pd_w (pd_w (pd_w (pd_w (pd_w (pd_w q3.2 0 3 q3.1) 1 3 (kerNo (kerOf (q3.2 0 1)))) 0 1 (kerNo (kerOf (pd_w q3.2 0 3 q3.1 1 3)))) 0 2 (1 : Int32)) 173 1 (0 : Int32)) 186 1 (0 : Int32)) 0 1) = a ∧ (pd_w (pd_w (pd_w (pd_w (pd_w (pd_w q3.2 0 3 q3.1) 1 3 (kerNo (kerOf (q3.2 0 1)))) 0 1 (kerNo (kerOf (pd_w q3.2 0 3 q3.1 1 3)))) 0 2 (1 : Int32)) 173 1 (0 : Int32)) 186 1 (0 : Int32)) 173 1 = 0 ∧ (pd_w (pd_w (pd_w (pd_w (pd_w (pd_w q3.2 0 3 q3.1) 1 3 (kerNo (kerOf (q3.2 0 1)))) 0 1 (kerNo (kerOf (pd_w q3.2 0 3 q3.1 1 3)))) 0 2 (1 : Int32)) 173 1 (0 : Int32)) 186 1 (0 : Int32)) 186 1 = 0 ∧ (pd_w (pd_w (pd_w (pd_w (pd_w (pd_w q3.2 0 3 q3.1) 1 3 (kerNo (kerOf (q3.2 0 1)))) 0 1 (kerNo (kerOf (pd_w q3.2 0 3 q3.1 1 3)))) 0 2 (1 : Int32)) 173 1 (0 : Int32)) 186 1 (0 : Int32)) 0 5 = v 0 5 ∧ (∀ c, 172 ≤ c → c ≠ 173 → c ≠ 186 → (pd_w (pd_w (pd_w (pd_w (pd_w (pd_w q3.2 0 3 q3.1) 1 3 (kerNo (kerOf (q3.2 0 1)))) 0 1 (kerNo (kerOf (pd_w q3.2 0 3 q3.1 1 3)))) 0 2 (1 : Int32)) 173 1 (0 : Int32)) 186 1 (0 : Int32)) c = v c)
      have far : ∀ c, c ≠ 0 → c ≠ 1 → c ≠ 173 → c ≠ 186 → pd_w (pd_w (pd_w (pd_w (pd_w (pd_w q3.2 0 3 q3.1) 1 3 (kerNo (kerOf (q3.2 0 1)))) 0 1 (kerNo (kerOf (pd_w q3.2 0 3 q3.1 1 3)))) 0 2 (1 : Int32)) 173 1 (0 : Int32)) 186 1 (0 : Int32) c = q3.2 c := by
        intro c c0 c1 c173 c186
        rw [pd_wa c186, pd_wa c173, pd_wa c0, pd_wa c0, pd_wa c1, pd_wa c0]
      refine ⟨⟨N, i1, hN, l5, l10, ⟨?_, fun i hi => ?_, ?_⟩, ?_⟩, ?_, ?_, ?_, ?_, fun c h1 h2 h3 => ?_⟩
      · rw [far a (by omega) (by omega) (by omega) (by omega), hV.2 3 (by decide)]; exact l7
      · refine ZJ_f (ZJ_V ha (l11 i hi) hV) (Nat.le_refl _) (fun f _ _ => ?_) (fun t _ => ?_)
        · rw [far (a + 4 + i) (by omega) (by omega) (by omega) (by omega)]
        · rw [far (a + 2) (by omega) (by omega) (by omega) (by omega), far (a + 3) (by omega) (by omega) (by omega) (by omega)]
          exact ⟨rfl, rfl⟩
      · exact ZN_t l12 (fun r hr => by rw [far (a + 4 + r) (by omega) (by omega) (by omega) (by omega), hV.1 (a + 4 + r) (by omega)])
      · rw [far a (by omega) (by omega) (by omega) (by omega), eW, z9_t l5]
        rw [eP] at c
        exact Prod.ext rfl c
      · rw [pd_w_ne (by decide), pd_w_ne (by decide), pd_w_nk (by decide), pd_w_self, x0, l4]
        exact kerOf_no ha
      · rw [pd_w_ne (by decide), pd_w_self]
      · rw [pd_w_self]
      · rw [pd_w_ne (by decide), pd_w_ne (by decide), pd_w_nk (by decide), pd_w_nk (by decide), pd_w_ne (by decide), pd_w_nk (by decide), hV.1 0 (by omega), hT'.2.1 0 (by decide) (by decide) (by omega)]
      · rw [far c (by omega) (by omega) h2 h3, hV.1 c (by omega)]
        exact hT'.2.1 c (by omega) (by omega) (by omega)
    · exact pf_some (Or.inr ⟨show (2 : Int32) ≠ 0 by decide, nn q3.2 _ (hV.1 0 (by omega)) (hV.1 1 (by omega)) (fun c hc => hV.1 c hc)⟩)
theorem yco_t (hw : 4294967296 < w) (hJ : J b v) (hK : K5 v) (h7 : K7 v) : Sf (d_De_compile w v) (fun r => Sf (d_Mo_compile w r.2) (fun t => (J b t.2 ∧ K5 t.2 ∧ K7 t.2) ∧ r.1 = t.1)) := by
  obtain ⟨n, hn, h2⟩ := hJ.2.1.1
  have h0 : ∀ j, n ≤ j → (fun j => if j < n then v 2 j else 0) j = (0 : Int32) := fun j hj => if_neg (by omega)
  have hR : RD n (fun j => if j < n then v 2 j else 0) v := ⟨hJ.2.2.trans h2, fun j hj => (if_pos hj).symm⟩
  have pk : kerOf (v 0 1) = 3 ∨ kerOf (v 0 1) = 88 := ker_of (v 0 1)
  have pa : kerOf (v 1 3) = 3 ∨ kerOf (v 1 3) = 88 := ker_of (v 1 3)
  obtain ⟨k1, k2, k3, k4, k5⟩ := id hK
  generalize hs : (fun j => if j < n then v 2 j else (0 : Int32)) = s at h0 hR
  refine sf_mono (sf_pf (sf_sf (t_De_compile hw hJ.1) (zco_t hw hJ hK)) (yde_t hw hn h0 hR rfl)) (fun r hr => ?_)
  obtain ⟨⟨hC, -, hM⟩, hZ⟩ := hr
  have far : ∀ c, 198 ≤ c → r.2 c = v c := fun c hc => hC.1 c (by omega)
  have hD : DR n s r.2 := ⟨by rw [far 198 (by omega)]; exact h2, fun j hj => by rw [far 199 (by omega), ← k1 n hn h2 j hj]; exact hR.2 j hj⟩
  refine sf_mono (sf_pf hM (ycm_r hw hn h0 hD)) (fun t ht => ?_)
  obtain ⟨⟨⟨tJ, tK⟩, te⟩, tZ⟩ := ht
  refine ⟨⟨tJ, tK, ?_⟩, te⟩
  rcases hZ with ⟨r0, ⟨N, i1, n1, n2, n3, n4, n5⟩, n6, n7, n8, n9, n10⟩ | ⟨r0, zd⟩
  · rcases tZ with ⟨-, c1, c2, c3, c4, c5, c6⟩ | ⟨t0, -⟩
    · obtain ⟨h1, ⟨m, m1, m2, m3⟩, -⟩ := h7
      have td : ∀ d, d ≠ 198 → d ≠ 200 → d ≠ 201 → d ≠ 202 → d ≠ 212 → d ≠ 219 → t.2 d = r.2 d := c1
      refine ⟨fun j hj => ?_, ⟨m, m1, ?_, ?_⟩, ?_, ?_, fun _ => c5, fun _ => ⟨s, n, N, i1, ⟨hn, h0, n1, n2, by omega⟩, c3, ?_, ?_, fun c => absurd c4 c⟩, fun c => absurd c6 c⟩
      · rw [td 172 (by decide) (by decide) (by decide) (by decide) (by decide) (by decide), td 203 (by decide) (by decide) (by decide) (by decide) (by decide) (by decide), n10 172 (by omega) (by decide) (by decide), n10 203 (by omega) (by decide) (by decide)]
        exact h1 j hj
      · rw [td 0 (by decide) (by decide) (by decide) (by decide) (by decide) (by decide), n9]; exact m2
      · rw [c2 12 (by decide) (by decide) (by decide) (by decide) (by decide) (by decide) (by decide) (by decide) (by decide), far 198 (by omega)]; exact m3
      · rw [td 173 (by decide) (by decide) (by decide) (by decide) (by decide) (by decide), n7, c4]
      · rw [td 186 (by decide) (by decide) (by decide) (by decide) (by decide) (by decide), n8, c6]
      · rw [td 0 (by decide) (by decide) (by decide) (by decide) (by decide) (by decide), n6]
        exact KNL_r n1 n4 (fun d d1 d2 => td d (by omega) (by omega) (by omega) (by omega) (by omega) (by omega))
      · rw [td 0 (by decide) (by decide) (by decide) (by decide) (by decide) (by decide), n6, td (kerOf (v 1 3)) (by omega) (by omega) (by omega) (by omega) (by omega) (by omega)]
        exact n5
    · exact absurd (te.symm.trans r0) t0
  · rcases tZ with ⟨t0, -⟩ | ⟨-, c1, c2⟩
    · exact absurd (te.trans t0) r0
    · obtain ⟨d1, d2, d3, d4⟩ := zd
      refine K7_e h7 (fun d hd => ?_) (fun d e1 e2 => ?_) ?_ ?_ (fun k hk => ?_)
      · rw [c1 d (by omega) (by omega) (by omega) (by omega) (by omega), d1 d (by omega) (by omega) (by omega) (by omega)]
      · rw [c1 d (by omega) (by omega) (by omega) (by omega) (by omega), d1 d (by omega) (by omega) (by omega) (by omega)]
      · rw [c1 0 (by decide) (by decide) (by decide) (by decide) (by decide), d2 1 (by decide)]
      · rw [c1 0 (by decide) (by decide) (by decide) (by decide) (by decide), d2 5 (by decide)]
      · rw [c2 k (by omega) (by omega) (by omega) (by omega), far 198 (by omega)]
end YCO
