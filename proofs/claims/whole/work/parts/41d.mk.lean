/-! the reference's reckoning, bracket by bracket -/
section ZML
variable {s : Nat → Int32} {n m w l p q : Nat} {v u t : pd_V} {x y sum sg : Int32} {e : xEv} {k : xKV}
theorem rkq_339 (h9 : v 198 19 = 0) (hs : v 220 0 = sum) : Pf (d_Mo_reckon_339 w v) (RKQ (some sum)) := by
  unfold d_Mo_reckon_339
  refine pf_c (fun _ => pf_some (Or.inl ⟨sum, rfl, ?_, h9⟩))
  show v 220 (0 : Int32).toNatClampNeg = sum
  rw [show (0 : Int32).toNatClampNeg = 0 by decide]
  exact hs
theorem rkv_AB (hw : 4294967296 < w) (hn : n ≤ 160) (hm : m ≤ 4) (hl : l < 16) (hq : q < n) (hd : xdig (s q) = false) : ∀ fx : Nat,
    (∀ (p : Nat) (k : xKV) (sum sg : Int32) (v : pd_V) (F : Nat), xp s m fx p (k.map Prod.fst) true = (true, q) → k.length ≤ m → TX n s v → At p v → KSV v k → v 220 k.length = sum → v 221 k.length = sg → v 198 19 = 0 → EE e l v → Pf (d_Mo_reckon_22 w F (Int32.ofNat l) (Int32.ofNat k.length) v) (RKQ (xe s e fx p k sum sg true)))
    ∧ (∀ (p : Nat) (k : xKV) (sum sg : Int32) (v : pd_V) (F G : Nat), xp s m fx p (k.map Prod.fst) false = (true, q) → k.length ≤ m → TX n s v → At p v → KSV v k → v 220 k.length = sum → v 221 k.length = sg → v 198 19 = 0 → EE e l v → Pf (d_Mo_reckon_137 (rkK w F) w G (Int32.ofNat l) (Int32.ofNat k.length) v) (RKQ (xe s e fx p k sum sg false))) := by
  intro fx
  induction fx with
  | zero => exact ⟨fun p k sum sg v F h => ft_ne h, fun p k sum sg v F G h => ft_ne h⟩
  | succ fx ih =>
    obtain ⟨ihA, ihB⟩ := ih
    refine ⟨?_, ?_⟩
    · intro p k sum sg v F h hk hT hA hKS hsum hsg h9 hEE
      cases F with
      | zero => rw [d_Mo_reckon_22]; exact pf_none
      | succ F =>
      have hpq := (xp_g _ _ _ _ _ h).2 rfl
      have hp : p < n := by omega
      have hA' : v 198 6 = Int32.ofNat p := hA
      have hlk : (k.map Prod.fst).length = k.length := List.length_map _
      rw [xp] at h
      rw [xe]
      show Pf _ (RKQ (bif (xpl s p).1 then xe s e fx (xpl s p).2 k (d_Mo_joined sum sg (xpv s e p)) sg false else bif (xop s p).1 then xe s e fx (xop s p).2 ((s p, sum, sg) :: k) 0 43 true else none))
      rw [d_Mo_reckon_22, hA', cl_nat (show p ≤ 1000 by omega), hT.2 p hp]
      refine pf_c (fun _ => ?_)
      have e73 : (73 : Int32).toInt = 73 := by decide
      have e76 : (76 : Int32).toInt = 76 := by decide
      have e40 : (40 : Int32).toInt = 40 := by decide
      have plain : ∀ (p2 : Nat), (xdig (s p) = true ∨ s p = 110 ∨ xvar (s p) = true) → p2 = (bif xdig (s p) then xnum s p else p + 1) → xpl s p = (true, p2) → xp s m fx p2 (k.map Prod.fst) false = (true, q) →
          Pf ((d_Mo_plain w (Int32.ofNat l) v).bind fun q21 => bif pm_in (Int32.ofNat k.length) 6 then d_Mo_reckon_137 (rkK w F) w w (Int32.ofNat l) (Int32.ofNat k.length) (pd_w q21.2 220 (Int32.ofNat k.length).toNatClampNeg (d_Mo_joined (v 220 (Int32.ofNat k.length).toNatClampNeg) (v 221 (Int32.ofNat k.length).toNatClampNeg) q21.1)) else none) (RKQ (bif (xpl s p).1 then xe s e fx (xpl s p).2 k (d_Mo_joined sum sg (xpv s e p)) sg false else bif (xop s p).1 then xe s e fx (xop s p).2 ((s p, sum, sg) :: k) 0 43 true else none)) := by
        intro p2 hx hp2 hpl h2
        have g := (xp_g _ _ _ _ _ h2).1.1
        have side : (xdig (s p) = true → xrg s p (xnum s p) ∧ xnum s p ≤ q ∧ xdig (s (xnum s p)) = false) := by
          intro c
          rw [c] at hp2
          have hp2 : p2 = xnum s p := hp2
          subst hp2
          exact ⟨(xnum_g c).1, g, xp_nd h2 hd⟩
        rw [hpl]
        refine pf_bind (pf_and (pf_sf (pl_t (f := 0) hw hn hl hT hA hp hx hq side)) (plv_t hn hl hT hA hp hx hq hEE side)) (fun r hr => ?_)
        obtain ⟨⟨r1, r2⟩, r3, ⟨f1, f2, f3⟩, r4⟩ := hr
        rw [← hp2] at r2
        refine pf_c (fun _ => ?_)
        rw [cl_nat (show k.length ≤ 1000 by omega), hsum, hsg, r3]
        have ex := ME_w (k := k.length) (x := d_Mo_joined sum sg (xpv s e p)) r1 (a := 220) (by omega)
        refine ihB p2 k _ sg _ F w h2 hk (TX_E hT ex) (At_w r2 (by decide)) (KSV_e hKS (fun j hj => ⟨?_, ?_, ?_⟩)) pd_w_self ?_ ?_ (EE_E hEE ex)
        · rw [pd_w_ne (by decide), f1]
        · rw [pd_w_nk (by omega), f2]
        · rw [pd_w_ne (by decide), f3]
        · rw [pd_w_ne (by decide), f3]; exact hsg
        · rw [pd_w_ne (by decide), r4]; exact h9
      have h : (bif xdig (s p) then xp s m fx (xnum s p) (k.map Prod.fst) false
        else bif decide (s p = 110) || xvar (s p) then xp s m fx (p + 1) (k.map Prod.fst) false
        else bif decide (s p = 40) then (bif Nat.beq (k.map Prod.fst).length m then (false, p) else xp s m fx (p + 1) (40 :: k.map Prod.fst) true)
        else bif decide (s p = 73) || decide (s p = 76) then (bif Nat.beq (k.map Prod.fst).length m || !(decide (s (p + 1) = 91)) then (false, p + 1) else xp s m fx (p + 2) (s p :: k.map Prod.fst) true)
        else (false, p)) = (true, q) := h
      rcases pd_cases h with ⟨c, h⟩ | ⟨c, h⟩
      · have r := xdig_r c
        have n1 : s p ≠ 73 := fun e => by rw [e] at r; omega
        have n2 : s p ≠ 76 := fun e => by rw [e] at r; omega
        have n3 : s p ≠ 40 := fun e => by rw [e] at r; omega
        rw [decide_eq_false n1, decide_eq_false n2, decide_eq_false n3]
        exact pf_f (pf_f (pf_t (pf_c (fun _ => pf_c (fun _ => plain _ (Or.inl c) (by rw [c]; rfl) (by unfold xpl; rw [c]; rfl) h)))))
      rcases pd_cases h with ⟨c2, h⟩ | ⟨c2, h⟩
      · have hx : s p = 110 ∨ xvar (s p) = true := by
          rcases or_c c2 with c3 | c3
          · exact Or.inl (of_decide_eq_true c3)
          · exact Or.inr c3
        have n4 : (s p).toInt = 110 ∨ 97 ≤ (s p).toInt := by
          rcases hx with hx | hx
          · rw [hx]; exact Or.inl (by decide)
          · exact Or.inr (xvar_r hx).1
        have n1 : s p ≠ 73 := fun e => by rw [e] at n4; omega
        have n2 : s p ≠ 76 := fun e => by rw [e] at n4; omega
        have n3 : s p ≠ 40 := fun e => by rw [e] at n4; omega
        rw [decide_eq_false n1, decide_eq_false n2, decide_eq_false n3]
        exact pf_f (pf_f (pf_t (pf_c (fun _ => pf_c (fun _ => plain _ (Or.inr hx) (by rw [c]; rfl) (by unfold xpl; rw [c, c2]; rfl) h)))))
      have hpl : xpl s p = (false, p) := by unfold xpl; rw [c, c2]; rfl
      rw [hpl]
      have opens : ∀ (p2 : Nat) (y : Int32), xop s p = (true, p2) → xp s m fx p2 (s p :: k.map Prod.fst) true = (true, q) → k.length + 1 ≤ m → At p2 (pd_w v 198 6 y) → (s p = 40 ∨ s p = 73 ∨ s p = 76) → Pf (d_Mo_reckon_22 w F (Int32.ofNat l) (Int32.ofNat (k.length + 1)) (pd_w (pd_w (pd_w (pd_w v 198 6 y) 219 (Int32.ofNat k.length).toNatClampNeg (s p)) 220 (Int32.ofNat (k.length + 1)).toNatClampNeg 0) 221 (Int32.ofNat (k.length + 1)).toNatClampNeg 43)) (RKQ (bif (false, p).1 then xe s e fx (false, p).2 k (d_Mo_joined sum sg (xpv s e p)) sg false else bif (xop s p).1 then xe s e fx (xop s p).2 ((s p, sum, sg) :: k) 0 43 true else none)) := by
        intro p2 y ho h2 hk2 hA2 hc0
        rw [ho, cl_nat (show k.length ≤ 1000 by omega), cl_nat (show k.length + 1 ≤ 1000 by omega)]
        have ex : ME v (pd_w (pd_w (pd_w (pd_w v 198 6 y) 219 k.length (s p)) 220 (k.length + 1) 0) 221 (k.length + 1) 43) := ME_w (ME_w (ME_w (ME_k ME_r (by omega)) (by omega)) (by omega)) (by omega)
        refine ihA p2 ((s p, sum, sg) :: k) 0 43 _ F h2 hk2 (TX_E hT ex) (At_w (At_w (At_w hA2 (by decide)) (by decide)) (by decide)) ⟨hc0, ?_, ?_, ?_, KSV_e hKS (fun j hj => ⟨?_, ?_, ?_⟩)⟩ ?_ pd_w_self ?_ (EE_E hEE ex)
        · rw [pd_w_ne (by decide), pd_w_ne (by decide), pd_w_self]
        · rw [pd_w_ne (by decide), pd_w_nk (by omega), pd_w_ne (by decide), pd_w_ne (by decide)]; exact hsum
        · rw [pd_w_nk (by omega), pd_w_ne (by decide), pd_w_ne (by decide), pd_w_ne (by decide)]; exact hsg
        · rw [pd_w_ne (by decide), pd_w_ne (by decide), pd_w_nk (by omega), pd_w_ne (by decide)]
        · rw [pd_w_ne (by decide), pd_w_nk (by omega), pd_w_ne (by decide), pd_w_ne (by decide)]
        · rw [pd_w_nk (by omega), pd_w_ne (by decide), pd_w_ne (by decide), pd_w_ne (by decide)]
        · show pd_w _ 221 (k.length + 1) _ 220 (k.length + 1) = 0
          rw [pd_w_ne (by decide), pd_w_self]
        · rw [pd_w_ne (by decide), pd_w_ne (by decide), pd_w_ne (by decide), pd_w_nk (by decide)]; exact h9
      rcases pd_cases h with ⟨c3, h⟩ | ⟨c3, h⟩
      · have e4 : s p = 40 := of_decide_eq_true c3
        rcases pd_cases h with ⟨c4, h⟩ | ⟨c4, h⟩
        · exact ft_ne h
        have hk2 : k.length + 1 ≤ m := by
          have : (k.map Prod.fst).length ≠ m := fun q => by rw [q, Nat.beq_refl] at c4; exact absurd c4 (by decide)
          omega
        have n1 : s p ≠ 73 := by rw [e4]; decide
        have n2 : s p ≠ 76 := by rw [e4]; decide
        have ho : xop s p = (true, p + 1) := by unfold xop; rw [c3]; rfl
        rw [decide_eq_false n1, decide_eq_false n2, c3, ofN1 k.length, dec_ofNat k.length]
        exact pf_f (pf_f (pf_f (pf_f (pf_c (fun _ => pf_c (fun _ => pf_c (fun _ => opens (p + 1) _ ho (by rw [e4]; exact h) hk2 At_1 (Or.inl e4))))))))
      rcases pd_cases h with ⟨c4, h⟩ | ⟨c4, h⟩
      · rcases pd_cases h with ⟨c5, h⟩ | ⟨c5, h⟩
        · exact ft_ne h
        have hk2 : k.length + 1 ≤ m := by
          have : (k.map Prod.fst).length ≠ m := fun q => by have := (or_f c5).1; rw [q, Nat.beq_refl] at this; exact absurd this (by decide)
          omega
        have c91 : decide (s (p + 1) = 91) = true := by
          have := (or_f c5).2
          cases z : decide (s (p + 1) = 91) with
          | true => rfl
          | false => rw [z] at this; exact absurd this (by decide)
        have ho : xop s p = (true, p + 2) := by unfold xop; rw [c3, c4, c91]; rfl
        have fin := opens (p + 2) (Int32.ofNat p + (2 : Int32)) ho h hk2 At_2 (by rcases or_c c4 with z | z; exact Or.inr (Or.inl (of_decide_eq_true z)); exact Or.inr (Or.inr (of_decide_eq_true z)))
        rw [c3, ofN1 k.length, dec_ofNat k.length]
        by_cases c6 : s p = 73
        · rw [decide_eq_true c6]
          exact pf_t (pf_t (pf_c (fun _ => pf_c (fun _ => pf_c (fun _ => fin)))))
        · have c7 : decide (s p = 76) = true := by
            rcases or_c c4 with c7 | c7
            · exact absurd (of_decide_eq_true c7) c6
            · exact c7
          rw [decide_eq_false c6, c7]
          exact pf_f (pf_t (pf_t (pf_c (fun _ => pf_c (fun _ => pf_c (fun _ => fin))))))
      · exact ft_ne h
    · intro p k sum sg v F G h hk hT hA hKS hsum hsg h9 hEE
      cases G with
      | zero => rw [d_Mo_reckon_137]; exact pf_none
      | succ G =>
      have hpq := (xp_g _ _ _ _ _ h).1.1
      have hp : p < n := by omega
      have hA' : v 198 6 = Int32.ofNat p := hA
      have h : (bif xsgn (s p) then xp s m fx (p + 1) (k.map Prod.fst) true else bif (k.map Prod.fst).isEmpty then (true, p) else bif decide (s p = xclo ((k.map Prod.fst).headD 0)) then xp s m fx (p + 1) (k.map Prod.fst).tail false else (false, p)) = (true, q) := by
        rw [xp] at h
        exact h
      rw [xe]
      show Pf _ (RKQ (bif xsgn (s p) then xe s e fx (p + 1) k sum (s p) true else bif k.isEmpty then some sum else bif !(decide (s p = xclo (k.headD (0, 0, 0)).1)) then none else (xbk e (k.headD (0, 0, 0)).1 sum).bind fun x => xe s e fx (p + 1) k.tail (d_Mo_joined (k.headD (0, 0, 0)).2.1 (k.headD (0, 0, 0)).2.2 x) (k.headD (0, 0, 0)).2.2 false))
      rw [d_Mo_reckon_137, hT.1, hA', le_nat (by omega) (by omega), decide_eq_false (show ¬ n ≤ p by omega), cl_nat (show p ≤ 1000 by omega), hT.2 p hp]
      refine pf_f (pf_c (fun _ => ?_))
      rcases pd_cases h with ⟨c, h⟩ | ⟨c, h⟩
      · have c' : (!(decide (d_Mo_isSign (s p) = 0))) = true := c
        rw [c', c]
        refine pf_t ?_
        unfold rkK
        rw [hT.1, hA', eq_nat (by omega) (by omega), decide_eq_false (show ¬ p = n by omega), cl_nat (show p ≤ 1000 by omega), hT.2 p hp, c', cl_nat (show k.length ≤ 1000 by omega)]
        refine pf_f (pf_c (fun _ => pf_t (pf_c (fun _ => pf_c (fun _ => ?_)))))
        have ex : ME v (pd_w (pd_w v 221 k.length (s p)) 198 6 (Int32.ofNat p + (1 : Int32))) := ME_k (ME_w ME_r (by omega)) (by omega)
        refine ihA (p + 1) k sum (s p) _ F h hk (TX_E hT ex) At_1 (KSV_e hKS (fun j hj => ⟨?_, ?_, ?_⟩)) ?_ ?_ ?_ (EE_E hEE ex)
        · rw [pd_w_ne (by decide), pd_w_ne (by decide)]
        · rw [pd_w_ne (by decide), pd_w_ne (by decide)]
        · rw [pd_w_ne (by decide), pd_w_nk (by omega)]
        · rw [pd_w_ne (by decide), pd_w_ne (by decide)]; exact hsum
        · rw [pd_w_ne (by decide), pd_w_self]
        · rw [pd_w_nk (by decide), pd_w_ne (by decide)]; exact h9
      · have c' : (!(decide (d_Mo_isSign (s p) = 0))) = false := c
        rw [c', c]
        refine pf_f ?_
        cases k with
        | nil =>
          rw [show decide (Int32.ofNat ([] : xKV).length ≤ 0) = true from by decide]
          refine pf_t ?_
          unfold rkK
          rw [hT.1, hA', eq_nat (by omega) (by omega), decide_eq_false (show ¬ p = n by omega), cl_nat (show p ≤ 1000 by omega), hT.2 p hp, c']
          exact pf_f (pf_c (fun _ => pf_f (rkq_339 h9 hsum)))
        | cons c0 k =>
          obtain ⟨c0, sm, g⟩ := c0
          have h : (bif decide (s p = xclo c0) then xp s m fx (p + 1) (k.map Prod.fst) false else (false, p)) = (true, q) := h
          obtain ⟨k0, k1, k2, k3, k4⟩ := hKS
          rcases pd_cases h with ⟨c2, h⟩ | ⟨c2, h⟩
          · have hk3 : k.length + 1 ≤ m := hk
            show Pf _ (RKQ (bif !(decide (s p = xclo c0)) then none else (xbk e c0 sum).bind fun x => xe s e fx (p + 1) k (d_Mo_joined sm g x) g false))
            rw [c2]
            show Pf _ (RKQ ((xbk e c0 sum).bind fun x => xe s e fx (p + 1) k (d_Mo_joined sm g x) g false))
            have hsum' : v 220 (k.length + 1) = sum := hsum
            have rcc : ∀ (val : Int32), xbk e c0 sum = some val → Pf (d_Mo_reckon_137 (rkK w F) w G (Int32.ofNat l) (Int32.ofNat k.length) (pd_w (pd_w (pd_w v 198 6 (Int32.ofNat p + (1 : Int32))) 198 19 (0 : Int32)) 220 k.length (d_Mo_joined sm g val))) (RKQ ((xbk e c0 sum).bind fun x => xe s e fx (p + 1) k (d_Mo_joined sm g x) g false)) := by
              intro val hval
              rw [hval]
              have ex : ME v (pd_w (pd_w (pd_w v 198 6 (Int32.ofNat p + (1 : Int32))) 198 19 (0 : Int32)) 220 k.length (d_Mo_joined sm g val)) := ME_w (ME_k (ME_k ME_r (by omega)) (by omega)) (by omega)
              refine ihB (p + 1) k _ g _ F G h (by omega) (TX_E hT ex) (At_w (At_19 At_1) (by decide)) (KSV_e k4 (fun j hj => ⟨?_, ?_, ?_⟩)) pd_w_self ?_ ?_ (EE_E hEE ex)
              · rw [pd_w_ne (by decide), pd_w_ne (by decide), pd_w_ne (by decide)]
              · rw [pd_w_nk (by omega), pd_w_ne (by decide), pd_w_ne (by decide)]
              · rw [pd_w_ne (by decide), pd_w_ne (by decide), pd_w_ne (by decide)]
              · rw [pd_w_ne (by decide), pd_w_ne (by decide), pd_w_ne (by decide)]; exact k3
              · rw [pd_w_ne (by decide), pd_w_self]
            have trp : xbk e c0 sum = none → Pf (some ((0 : Int32), pd_w (pd_w v 198 6 (Int32.ofNat p + (1 : Int32))) 198 19 (1 : Int32))) (RKQ ((xbk e c0 sum).bind fun x => xe s e fx (p + 1) k (d_Mo_joined sm g x) g false)) := by
              intro hval
              rw [hval]
              exact pf_some (Or.inr ⟨rfl, show pd_w (pd_w v 198 6 (Int32.ofNat p + (1 : Int32))) 198 19 (1 : Int32) 198 19 = 1 from pd_w_self⟩)
            have e0 : decide (Int32.ofNat ((c0, sm, g) :: k).length ≤ 0) = false := by
              show decide (Int32.ofNat (k.length + 1) ≤ 0) = false
              rw [le0 (show k.length + 1 ≤ 1000 by omega)]
              exact decide_eq_false (show ¬ k.length + 1 ≤ 0 by omega)
            rw [e0]
            refine pf_f ?_
            rw [show ((c0, sm, g) :: k).length = k.length + 1 from rfl, ofNm, cl_nat (show k.length ≤ 1000 by omega), cl_nat (show k.length + 1 ≤ 1000 by omega), k1, k2, k3, hsum']
            refine pf_c (fun _ => pf_c (fun _ => ?_))
            by_cases o1 : c0 = 40
            · have o2 : c0 ≠ 73 := by rw [o1]; decide
              have o3 : c0 ≠ 76 := by rw [o1]; decide
              have hx : xbk e c0 sum = some sum := by unfold xbk; rw [decide_eq_false o2, decide_eq_false o3]; rfl
              rw [decide_eq_true o1, decide_eq_false o2, decide_eq_false o3]
              refine pf_t (pf_d (fun _ => ?_) (fun c => absurd rfl c))
              exact pf_t (pf_t (pf_c (fun _ => pf_c (fun _ => pf_c (fun _ => rcc _ hx)))))
            · rw [decide_eq_false o1]
              refine pf_f ?_
              by_cases o2 : c0 = 73
              · rw [decide_eq_true o2]
                refine pf_f ?_
                refine pf_d (fun b => ?_) (fun b => ?_)
                · have b2 := bey0 b
                  have e15 : (15 : Int32).toInt = 15 := by decide
                  have ez := sI_0
                  have hlt : sum.toNatClampNeg < 16 := by
                    show sum.toInt.toNat < 16
                    omega
                  have hx : xbk e c0 sum = some (v 203 sum.toNatClampNeg) := by
                    unfold xbk
                    rw [decide_eq_true o2, decide_eq_true b]
                    show some (e.2.1 sum.toNatClampNeg) = _
                    rw [hEE.2.1 _ hlt]
                  refine pf_d (fun _ => ?_) (fun c => absurd rfl c)
                  exact pf_f (pf_c (fun _ => pf_c (fun _ => pf_c (fun _ => pf_c (fun _ => rcc _ hx)))))
                · have hx : xbk e c0 sum = none := by
                    unfold xbk
                    rw [decide_eq_true o2, decide_eq_false b]
                    rfl
                  exact pf_d (fun c => absurd c (by decide)) (fun _ => trp hx)
              · rw [decide_eq_false o2]
                refine pf_t ?_
                refine pf_d (fun b => ?_) (fun b => ?_)
                · have b2 := bey0 b
                  have e7 : (7 : Int32).toInt = 7 := by decide
                  have ez := sI_0
                  have hlt : sum.toNatClampNeg < 8 := by
                    show sum.toInt.toNat < 8
                    omega
                  refine pf_d (fun _ => ?_) (fun c => absurd rfl c)
                  refine pf_t (pf_n (fun o3 => ?_) (fun o3 => ?_))
                  · have hx : xbk e c0 sum = some sum := by unfold xbk; rw [decide_eq_false o2, decide_eq_false o3]; rfl
                    exact pf_c (fun _ => pf_c (fun _ => pf_c (fun _ => rcc _ hx)))
                  · have hx : xbk e c0 sum = some (v 205 (8 * l + sum.toNatClampNeg)) := by
                      unfold xbk
                      rw [decide_eq_false o2, decide_eq_true o3, decide_eq_true b]
                      show some (e.2.2.1 sum.toNatClampNeg) = _
                      rw [hEE.2.2.1 _ hlt]
                    rw [cel_i hl (by omega)]
                    exact pf_c (fun _ => pf_c (fun _ => pf_c (fun _ => pf_c (fun _ => rcc _ hx))))
                · refine pf_d (fun c => absurd c (by decide)) (fun _ => ?_)
                  by_cases o3 : c0 = 76
                  · have hx : xbk e c0 sum = none := by
                      unfold xbk
                      rw [decide_eq_false o2, decide_eq_true o3, decide_eq_false b]
                      rfl
                    exact trp hx
                  · rcases k0 with z | z | z
                    · exact absurd z o1
                    · exact absurd z o2
                    · exact absurd z o3
          · exact ft_ne h
/-- an expression as a lane's value -/
theorem rkv_t {fx : Nat} (hw : 4294967296 < w) (hn : n ≤ 160) (hm : m ≤ 4) (hl : l < 16) (hq : q < n) (hd : xdig (s q) = false) (hT : TX n s v) (h9 : v 198 19 = 0) (hEE : EE e l v) (h : xp s m fx p [] true = (true, q)) : Pf (d_Mo_reckon w (Int32.ofNat l) (Int32.ofNat p) v) (RKQ (xe s e fx p [] 0 43 true)) := by
  unfold d_Mo_reckon
  refine pf_c (fun _ => pf_c (fun _ => ?_))
  have z0 : (0 : Int32).toNatClampNeg = 0 := by decide
  rw [z0]
  have ex : ME v (pd_w (pd_w (pd_w v 198 6 (Int32.ofNat p)) 220 0 0) 221 0 43) := ME_w (ME_w (ME_k ME_r (by omega)) (by omega)) (by omega)
  refine (rkv_AB hw hn hm hl hq hd fx).1 p [] 0 43 _ w h (Nat.zero_le _) (TX_E hT ex) (At_w (At_w (show pd_w v 198 6 (Int32.ofNat p) 198 6 = _ from pd_w_self) (by decide)) (by decide)) trivial ?_ pd_w_self ?_ (EE_E hEE ex)
  · show pd_w (pd_w (pd_w v 198 6 (Int32.ofNat p)) 220 0 0) 221 0 43 220 0 = 0
    rw [pd_w_ne (by decide), pd_w_self]
  · rw [pd_w_ne (by decide), pd_w_ne (by decide), pd_w_nk (by decide)]; exact h9
/-- the lane's value, or its trap -/
def VQ (l q : Nat) (x : Int32) (o : Option Int32) (v : pd_V) (r : Int32 × pd_V) : Prop := (∀ d, d ≠ 198 → d ≠ 208 → d ≠ 209 → ¬ (219 ≤ d ∧ d ≤ 221) → r.2 d = v d) ∧ (∀ k, k ≠ 6 → k ≠ 19 → r.2 198 k = v 198 k) ∧ ((∃ y, o = some y ∧ r.1 = y ∧ At q r.2 ∧ r.2 208 = v 208 ∧ r.2 209 = v 209) ∨ (o = none ∧ (∀ j, j ≠ l → r.2 208 j = v 208 j ∧ r.2 209 j = v 209 j) ∧ r.2 208 l = x + 1 ∧ r.2 209 l = 1))
end ZML
