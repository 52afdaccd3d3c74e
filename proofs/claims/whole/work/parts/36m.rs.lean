/-! the head of a statement, and the whole of it -/
section ZRS
variable {s : Nat → Int32} {n m w a b i0 i1 i2 p p' q e j nb : Nat} {v u t : pd_V} {x y : Int32} {k k' : xK}
theorem ztv (hn : n ≤ 160) (h0 : ∀ j, n ≤ j → s j = 0) (hD : RD n s u) (hA : Ac q u) (hq : q ≤ n) : d_Re_takeVariable u = some (bif xvar (s q) then (s q - 97, pd_w u 1 2 (Int32.ofNat q + (1 : Int32))) else ((-1 : Int32), u)) := by
  have hA' : u 1 2 = Int32.ofNat q := hA
  unfold d_Re_takeVariable
  rw [nx_t hn hD hA (by omega), hA']
  show (bif !(decide (d_Re_isVariable (xsN s n q) = 0)) then some (xsN s n q - 97, pd_w u 1 2 (Int32.ofNat q + (1 : Int32))) else some ((-1 : Int32), u)) = _
  rw [isV, bi_0, Bool.not_not]
  by_cases c : q < n
  · have e : xsN s n q = s q := by unfold xsN; rw [decide_eq_true c]; rfl
    rw [e]
    cases xvar (s q) <;> rfl
  · have e : xsN s n q = -1 := by unfold xsN; rw [decide_eq_false c]; rfl
    have z : xvar (s q) = false := by rw [h0 q (by omega)]; decide
    rw [e, z]
    rfl
theorem zhd_o (ha : ker a) (hb : b = a + 4 + j ∧ j < 80) (h : ZE s n a b j i0 i1 p nb q y v u) (h1 : y ≠ 0) (h2 : y ≠ 3) (hq : q + 1 ≤ n) : Sf (d_Re_readHead b u) (fun r => r.1 = 1 ∧ ZE s n a b j i0 i1 p nb (q + 1) y v r.2) := by
  have pa : a = 3 ∨ a = 88 := ha
  have hA' : u 1 2 = Int32.ofNat q := h.1.2.1
  unfold d_Re_readHead
  rw [h.2.2.2.1, hA', decide_eq_false h1]
  show Sf (bif !(decide (pd_w u 1 2 (Int32.ofNat q + (1 : Int32)) b 0 = (3 : Int32))) then _ else _) _
  rw [pd_w_ne (show b ≠ 1 by omega), h.2.2.2.1, decide_eq_false h2]
  exact sf_some ⟨rfl, ZE_1 ha hb h hq⟩
theorem zhd_g (hn : n ≤ 160) (h0 : ∀ j, n ≤ j → s j = 0) (ha : ker a) (hb : b = a + 4 + j ∧ j < 80) (h : ZE s n a b j i0 i1 p nb q 0 v u) (hv : xvar (s q) = true) (hq : q + 1 ≤ n) : Sf (d_Re_readHead b u) (fun r => (r.1 = 0 ∧ s (q + 1) ≠ 61 ∧ Ac (q + 1) r.2) ∨ (r.1 = 1 ∧ s (q + 1) = 61 ∧ ZE s n a b j i0 i1 p nb (q + 2) 0 v r.2 ∧ r.2 b 5 = s q - 97)) := by
  have pa : a = 3 ∨ a = 88 := ha
  have hA' : u 1 2 = Int32.ofNat q := h.1.2.1
  unfold d_Re_readHead
  rw [h.2.2.2.1]
  show Sf ((d_Re_next u).bind _) _
  rw [nx_t hn h.1.1 h.1.2.1 (by omega)]
  refine sf_sb ?_
  have e : xsN s n q = s q := by unfold xsN; rw [decide_eq_true (show q < n by omega)]; rfl
  rw [e, pd_w_ne (show 1 ≠ b by omega), hA']
  have E1 := ZE_1 ha hb (ZE_b (x := s q - 97) ha hb (Or.inl rfl) h) hq
  have e5 : ∀ z, pd_w (pd_w u b 5 (s q - 97)) 1 2 z b 5 = s q - 97 := fun z => by rw [pd_w_ne (by omega), pd_w_self]
  rw [tkc_t hn h0 E1.1.1 E1.1.2.1 (by omega) (by decide)]
  refine sf_sb ?_
  cases z : decide (s (q + 1) = 61) with
  | false => exact sf_some (Or.inl ⟨rfl, of_decide_eq_false z, E1.1.2.1⟩)
  | true =>
    have q2 : q + 1 + 1 ≤ n := lt_x h0 hq z (by decide)
    refine sf_some (Or.inr ⟨rfl, of_decide_eq_true z, ZE_1 ha hb E1 q2, ?_⟩)
    show pd_w (pd_w (pd_w u b 5 (s q - 97)) 1 2 (Int32.ofNat q + (1 : Int32))) 1 2 (Int32.ofNat (q + 1) + (1 : Int32)) b 5 = _
    rw [pd_w_ne (by omega)]
    exact e5 _
theorem zhd_x (hn : n ≤ 160) (h0 : ∀ j, n ≤ j → s j = 0) (ha : ker a) (hb : b = a + 4 + j ∧ j < 80) (h : ZE s n a b j i0 i1 p nb q 3 v u) (hq : q + 1 ≤ n) : Sf (d_Re_readHead b u) (fun r => (r.1 = 0 ∧ ((xvar (s (q + 1)) = false ∧ Ac (q + 1) r.2) ∨ (xvar (s (q + 1)) = true ∧ xvar (s (q + 2)) = false ∧ Ac (q + 2) r.2))) ∨ (r.1 = 1 ∧ xvar (s (q + 1)) = true ∧ xvar (s (q + 2)) = true ∧ ZE s n a b j i0 i1 p nb (q + 3) 3 v r.2 ∧ r.2 b 5 = s (q + 1) - 97 ∧ r.2 b 6 = s (q + 2) - 97)) := by
  have pa : a = 3 ∨ a = 88 := ha
  have hA' : u 1 2 = Int32.ofNat q := h.1.2.1
  have E1 := ZE_1 ha hb h hq
  have nm : ∀ c, xvar c = true → c - 97 ≠ (-1 : Int32) := fun c hc q => by
    have := vlet hc
    rw [q, sI_m1] at this
    omega
  unfold d_Re_readHead
  rw [h.2.2.2.1, hA']
  show Sf (bif !(decide (pd_w u 1 2 (Int32.ofNat q + (1 : Int32)) b 0 = (3 : Int32))) then _ else (d_Re_takeVariable (pd_w u 1 2 (Int32.ofNat q + (1 : Int32)))).bind _) _
  rw [pd_w_ne (show b ≠ 1 by omega), h.2.2.2.1]
  refine sf_n (fun c => absurd rfl c) (fun _ => ?_)
  rw [ztv hn h0 E1.1.1 E1.1.2.1 hq]
  refine sf_sb ?_
  cases z : xvar (s (q + 1)) with
  | false =>
    show Sf (bif !(decide (pd_w (pd_w u 1 2 (Int32.ofNat q + (1 : Int32))) b 5 (-1 : Int32) b 5 = (-1 : Int32))) then _ else bif decide (pd_w (pd_w (pd_w u 1 2 (Int32.ofNat q + (1 : Int32))) b 5 (-1 : Int32)) b 6 (-1 : Int32) b 6 = (-1 : Int32)) then some ((0 : Int32), pd_w (pd_w (pd_w u 1 2 (Int32.ofNat q + (1 : Int32))) b 5 (-1 : Int32)) b 6 (-1 : Int32)) else _) _
    rw [pd_w_self, pd_w_self]
    refine sf_n (fun c => absurd rfl c) (fun _ => ?_)
    refine sf_d (fun _ => sf_some (Or.inl ⟨rfl, Or.inl ⟨rfl, ?_⟩⟩)) (fun c => absurd rfl c)
    exact (ZE_b ha hb (Or.inr rfl) (ZE_b ha hb (Or.inl rfl) E1)).1.2.1
  | true =>
    have q2 : q + 1 + 1 ≤ n := by
      have := lt_n h0 (p := q + 1) rfl (show s (q + 1) ≠ 0 from fun c => by rw [c] at z; exact absurd z (by decide))
      omega
    have E2 := ZE_b (x := s (q + 1) - 97) ha hb (Or.inl rfl) (ZE_1 ha hb E1 q2)
    show Sf (bif !(decide (pd_w (pd_w (pd_w u 1 2 (Int32.ofNat q + (1 : Int32))) 1 2 (Int32.ofNat (q + 1) + (1 : Int32))) b 5 (s (q + 1) - 97) b 5 = (-1 : Int32))) then (d_Re_takeVariable (pd_w (pd_w (pd_w u 1 2 (Int32.ofNat q + (1 : Int32))) 1 2 (Int32.ofNat (q + 1) + (1 : Int32))) b 5 (s (q + 1) - 97))).bind _ else _) _
    rw [pd_w_self]
    refine sf_n (fun _ => ?_) (fun c => absurd c (nm _ z))
    have e5 : pd_w (pd_w (pd_w u 1 2 (Int32.ofNat q + (1 : Int32))) 1 2 (Int32.ofNat (q + 1) + (1 : Int32))) b 5 (s (q + 1) - 97) b 5 = s (q + 1) - 97 := pd_w_self
    rw [ztv hn h0 E2.1.1 E2.1.2.1 q2]
    generalize pd_w (pd_w (pd_w u 1 2 (Int32.ofNat q + (1 : Int32))) 1 2 (Int32.ofNat (q + 1) + (1 : Int32))) b 5 (s (q + 1) - 97) = u2 at E2 e5
    refine sf_sb ?_
    cases z2 : xvar (s (q + 2)) with
    | false =>
      show Sf (bif decide (pd_w u2 b 6 (-1 : Int32) b 6 = (-1 : Int32)) then some ((0 : Int32), pd_w u2 b 6 (-1 : Int32)) else _) _
      rw [pd_w_self]
      refine sf_d (fun _ => sf_some (Or.inl ⟨rfl, Or.inr ⟨rfl, rfl, ?_⟩⟩)) (fun c => absurd rfl c)
      exact (ZE_b ha hb (Or.inr rfl) E2).1.2.1
    | true =>
      have q3 : q + 2 + 1 ≤ n := by
        have := lt_n h0 (p := q + 2) rfl (show s (q + 2) ≠ 0 from fun c => by rw [c] at z2; exact absurd z2 (by decide))
        omega
      show Sf (bif decide (pd_w (pd_w u2 1 2 (Int32.ofNat (q + 2) + (1 : Int32))) b 6 (s (q + 2) - 97) b 6 = (-1 : Int32)) then _ else some ((1 : Int32), pd_w (pd_w u2 1 2 (Int32.ofNat (q + 2) + (1 : Int32))) b 6 (s (q + 2) - 97))) _
      rw [pd_w_self]
      refine sf_d (fun c => absurd c (nm _ z2)) (fun _ => sf_some (Or.inr ⟨rfl, rfl, rfl, ZE_b ha hb (Or.inr rfl) (ZE_1 ha hb E2 q3), ?_, pd_w_self⟩))
      show pd_w (pd_w u2 1 2 (Int32.ofNat (q + 2) + (1 : Int32))) b 6 (s (q + 2) - 97) b 5 = _
      rw [pd_w_nk (by decide), pd_w_ne (by omega)]
      exact e5
theorem ZR_1 (ha : ker a) (h : ZR s n a (a + 4 + j) p nb i1 u) : ZR s n a (a + 4 + j) p nb i1 (pd_w u 1 2 x) := by
  have pa : a = 3 ∨ a = 88 := ha
  exact ZR_f h (Nat.le_refl _) (fun f _ _ => pd_w_ne (by omega)) (fun t _ => ⟨pd_w_ne (by omega), pd_w_ne (by omega)⟩)
/-- the sign that ends a simple statement -/
theorem zfin_t (hn : n ≤ 160) (h0 : ∀ j, n ≤ j → s j = 0) (ha : ker a) (hj : j < 80) (hL : ZL s n a j p k v) (h4 : v a 4 = Int32.ofNat i0) (hJ : ∀ j', j' < j → ZJ s n a i0 j' v) (hE : ZE s n a (a + 4 + j) j i0 i1 p k.length e y v u) (hns : xns s p k = ((xfin s (true, e)).1, (xfin s (true, e)).2, k)) (hp : p + 1 ≤ e) (hR : ZR s n a (a + 4 + j) p k.length i1 u) (h7 : ¬ (s p = 125 ∧ k ≠ [])) : Sf ((d_Re_take (59 : Int32) u).bind fun q => bif decide (q.1 = 0) then some ((0 : Int32), q.2) else some ((1 : Int32), q.2)) (ZO s n a j p k) := by
  have he := hE.1.2.2.1
  rw [tkc_t hn h0 hE.1.1 hE.1.2.1 (by omega) (by decide)]
  refine sf_sb ?_
  have ef : xfin s (true, e) = bif decide (s e = 59) then (true, e + 1) else (false, e) := rfl
  rw [ef] at hns
  cases z : decide (s e = 59) with
  | false =>
    rw [z] at hns
    exact sf_d (fun _ => sf_some (Or.inl ⟨rfl, e, k, hns, hE.1.2.1⟩)) (fun c => absurd rfl c)
  | true =>
    rw [z] at hns
    have e1 : e + 1 ≤ n := lt_x h0 he z (by decide)
    refine sf_d (fun c => absurd (show (1 : Int32) = 0 from c) (by decide)) (fun _ => sf_some (Or.inr ⟨rfl, e + 1, k, hns, by omega, ?_⟩))
    exact ZL_s ha hL h4 hJ (ZE_1 ha ⟨rfl, hj⟩ hE e1) hns (by omega) (ZR_1 ha hR) h7 hj
/-- one expression and its end -/
theorem zex_t (hw : 4294967296 < w) (hn : n ≤ 160) (h0 : ∀ j, n ≤ j → s j = 0) (ha : ker a) (hj : j < 80) (hL : ZL s n a j p k v) (h4 : v a 4 = Int32.ofNat i0) (hJ : ∀ j', j' < j → ZJ s n a i0 j' v) (hE : ZE s n a (a + 4 + j) j i0 i1 p k.length q y v u) (hns : xns s p k = ((xfin s (xE s q)).1, (xfin s (xE s q)).2, k)) (hp : p ≤ q) (hR : ∀ e i2 r, xE s q = (true, e) → ZE s n a (a + 4 + j) j i0 i2 p k.length e y v r → ZW s n a (a + 4 + j) q e i2 r → r (a + 4 + j) 5 = u (a + 4 + j) 5 → r (a + 4 + j) 6 = u (a + 4 + j) 6 → ZR s n a (a + 4 + j) p k.length i2 r) (h7 : ¬ (s p = 125 ∧ k ≠ [])) : Sf ((d_Re_readWhole w (a + 4 + j) u).bind fun q13 => bif decide (q13.1 = 0) then some ((0 : Int32), q13.2) else (d_Re_take (59 : Int32) q13.2).bind fun q => bif decide (q.1 = 0) then some ((0 : Int32), q.2) else some ((1 : Int32), q.2)) (ZO s n a j p k) := by
  refine sf_bind (zrw_e hw hn h0 ha ⟨rfl, hj⟩ hE) (fun r hr => ?_)
  rcases hr with ⟨e1, z, z1, z2⟩ | ⟨e1, e, i2, g1, g2, g3, g4, g5, g6⟩
  · rw [e1]
    rw [z1] at hns
    exact sf_d (fun _ => sf_some (Or.inl ⟨rfl, z, k, hns, z2⟩)) (fun c => absurd rfl c)
  · rw [e1]
    rw [g1] at hns
    refine sf_d (fun c => absurd c (by decide)) (fun _ => ?_)
    exact zfin_t hn h0 ha hj hL h4 hJ g3 hns (by omega) (hR e i2 r.2 g1 g3 g4 g5 g6) h7
/-- an expression and the block behind it -/
theorem zbk_t (hw : 4294967296 < w) (hn : n ≤ 160) (h0 : ∀ j, n ≤ j → s j = 0) (ha : ker a) (hj : j < 80) (hL : ZL s n a j p k v) (h4 : v a 4 = Int32.ofNat i0) (hJ : ∀ j', j' < j → ZJ s n a i0 j' v) (hE : ZE s n a (a + 4 + j) j i0 i1 p k.length (p + 1) y v u) (hs : s p = 63 ∨ s p = 42) (hy : y = d_Re_kindFor (s p)) : Sf ((d_Re_readWhole w (a + 4 + j) u).bind fun q20 => bif decide (q20.1 = 0) then some ((0 : Int32), q20.2) else (d_Re_openBlock (Int32.ofNat j) q20.2).bind fun q => bif decide (q.1 = 0) then some ((0 : Int32), q.2) else some ((1 : Int32), q.2)) (ZO s n a j p k) := by
  have pa : a = 3 ∨ a = 88 := ha
  have k4 : k.length ≤ 4 := xSI_4 (xR_SI ⟨j, hL.2.1⟩)
  have h7 : ¬ (s p = 125 ∧ k ≠ []) := fun c => by
    rcases hs with h | h <;> (rw [h] at c; exact absurd c.1 (by decide))
  refine sf_bind (zrw_e hw hn h0 ha ⟨rfl, hj⟩ hE) (fun r hr => ?_)
  rcases hr with ⟨e1, z, z1, z2⟩ | ⟨e1, e, i2, g1, g2, g3, g4, g5, g6⟩
  · rw [e1]
    exact sf_d (fun _ => sf_some (Or.inl ⟨rfl, z, k, xns_bf hs z1, z2⟩)) (fun c => absurd rfl c)
  · rw [e1]
    refine sf_d (fun c => absurd c (by decide)) (fun _ => ?_)
    have r5 : r.2 1 5 = Int32.ofNat k.length := by rw [g3.2.1.2.1 5 (by decide) (by decide)]; exact hL.2.2.1
    have hR : ZR s n a (a + 4 + j) p k.length i2 r.2 := ⟨by rw [g3.2.2.2.1]; exact hy, g3.2.2.2.2.1, g3.2.2.2.2.2.1, Or.inr (Or.inr (Or.inr (Or.inr (Or.inr ⟨hs, e, g1, g4⟩))))⟩
    unfold d_Re_openBlock
    rw [r5, show (4 : Int32) = Int32.ofNat 4 from rfl, le_nat (by omega) (by omega)]
    by_cases c4 : 4 ≤ k.length
    · rw [decide_eq_true c4]
      refine sf_sb ?_
      exact sf_d (fun _ => sf_some (Or.inl ⟨rfl, e, k, xns_bg hs g1 (fun c => by omega), g3.1.2.1⟩)) (fun c => absurd rfl c)
    · rw [decide_eq_false c4]
      show Sf (((d_Re_take (123 : Int32) r.2).bind _).bind _) _
      have he := g3.1.2.2.1
      rw [tkc_t hn h0 g3.1.1 g3.1.2.1 (by omega) (by decide)]
      cases z : decide (s e = 123) with
      | false =>
        show Sf (some ((0 : Int32), r.2)) _
        exact sf_some (Or.inl ⟨rfl, e, k, xns_bg hs g1 (fun c => by rw [decide_eq_true c.2] at z; exact absurd z (by decide)), g3.1.2.1⟩)
      | true =>
        have en : e + 1 ≤ n := lt_x h0 he z (by decide)
        have ns := xns_b (k := k) hs g1 (by omega) (of_decide_eq_true z)
        have f5 : pd_w r.2 1 2 (Int32.ofNat e + (1 : Int32)) 1 5 = Int32.ofNat k.length := by rw [pd_w_nk (by decide)]; exact r5
        show Sf ((bif pm_in (pd_w r.2 1 2 (Int32.ofNat e + (1 : Int32)) 1 5) 4 then some ((1 : Int32), pd_w (pd_w (pd_w r.2 1 2 (Int32.ofNat e + (1 : Int32))) 87 (pd_w r.2 1 2 (Int32.ofNat e + (1 : Int32)) 1 5).toNatClampNeg (Int32.ofNat j)) 1 5 ((pd_w r.2 1 2 (Int32.ofNat e + (1 : Int32)) 1 5) + (1 : Int32))) else none).bind _) _
        rw [f5, in_nat (show k.length < 4 by omega) (by omega), cl_nat (by omega), ofN1 k.length]
        show Sf (some ((1 : Int32), pd_w (pd_w (pd_w r.2 1 2 (Int32.ofNat e + (1 : Int32))) 87 k.length (Int32.ofNat j)) 1 5 (Int32.ofNat (k.length + 1)))) _
        refine sf_some (Or.inr ⟨rfl, e + 1, _, ns, by omega, ?_⟩)
        refine ZL_b ha hL h4 hJ (ZE_1 ha ⟨rfl, hj⟩ g3 en) ?_ ns (by omega) (ZR_1 ha hR) h7 hj
        rcases hs with h | h
        · exact Or.inr ⟨by rw [decide_eq_true h]; rfl, by rw [hy, h]; decide⟩
        · exact Or.inl ⟨by rw [h]; rfl, by rw [hy, h]; decide⟩
end ZRS
