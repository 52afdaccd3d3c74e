/-! the reference reckons an expression -/
section RK2
variable {s : Nat → Int32} {n m w : Nat} {v u : pd_V} {p q l : Nat} {x : Int32}
theorem sf_f {α : Type} {A B : Option α} {Q : α → Prop} (h : Sf B Q) : Sf (bif false then A else B) Q := h
theorem sf_tt {α : Type} {A B : Option α} {Q : α → Prop} (h : Sf A Q) : Sf (bif true then A else B) Q := h
def rkK (w f : Nat) : Int32 → Int32 → pd_V → Option (Int32 × pd_V) := fun l1_1 l3_1 v_1 =>
  bif decide ((v_1 198 6) = (v_1 198 4)) then
    d_Mo_reckon_339 w v_1
  else
    bif pm_in (v_1 198 6) 160 then
    bif !(decide ((d_Mo_isSign (v_1 200 ((v_1 198 6).toNatClampNeg))) = 0)) then
      bif pm_in (v_1 198 6) 160 then
      bif pm_in l3_1 6 then
      d_Mo_reckon_22 w f l1_1 l3_1 (pd_w (pd_w v_1 221 l3_1.toNatClampNeg (v_1 200 ((v_1 198 6).toNatClampNeg))) 198 6 ((v_1 198 6) + (1 : Int32)))
      else none
      else none
    else
      d_Mo_reckon_339 w v_1
    else none
def RKP (q : Nat) (v : pd_V) (r : Int32 × pd_V) : Prop := ME v r.2 ∧ (r.2 198 19 = 0 → At q r.2)
theorem RKP_t {r : Int32 × pd_V} (h : ME v u) (h2 : RKP q u r) : RKP q v r := ⟨ME_t h h2.1, h2.2⟩
theorem At_w {a k : Nat} (h : At p u) (ha : 198 ≠ a) : At p (pd_w u a k x) := by
  show pd_w u a k x 198 6 = _
  rw [pd_w_ne ha]
  exact h
theorem At_1 : At (p + 1) (pd_w u 198 6 (Int32.ofNat p + (1 : Int32))) := by
  show pd_w u 198 6 _ 198 6 = _
  rw [pd_w_self, ofN1]
theorem At_2 : At (p + 2) (pd_w u 198 6 (Int32.ofNat p + (2 : Int32))) := by
  show pd_w u 198 6 _ 198 6 = _
  rw [pd_w_self, ofN2]
theorem At_19 (h : At p u) : At p (pd_w u 198 19 x) := by
  show pd_w u 198 19 x 198 6 = _
  rw [pd_w_nk (by decide)]
  exact h
theorem rk_339 (h : At q v) : Sf (d_Mo_reckon_339 w v) (RKP q v) := by
  unfold d_Mo_reckon_339
  exact sf_c (by decide) (sf_some ⟨ME_r, fun _ => h⟩)
theorem rk_AB (hw : 4294967296 < w) (hn : n ≤ 160) (hm : m ≤ 4) (hl : l < 16) (hq : q < n) (hd : xdig (s q) = false) : ∀ fx : Nat,
    (∀ (p : Nat) (k : List Int32) (v : pd_V) (F : Nat), xp s m fx p k true = (true, q) → k.length ≤ m → TX n s v → At p v → fx ≤ F → Sf (d_Mo_reckon_22 w F (Int32.ofNat l) (Int32.ofNat k.length) v) (RKP q v))
    ∧ (∀ (p : Nat) (k : List Int32) (v : pd_V) (F G : Nat), xp s m fx p k false = (true, q) → k.length ≤ m → TX n s v → At p v → fx ≤ F → k.length < G → Sf (d_Mo_reckon_137 (rkK w F) w G (Int32.ofNat l) (Int32.ofNat k.length) v) (RKP q v)) := by
  intro fx
  induction fx with
  | zero => exact ⟨fun p k v F h => ft_ne h, fun p k v F G h => ft_ne h⟩
  | succ fx ih =>
    obtain ⟨ihA, ihB⟩ := ih
    refine ⟨?_, ?_⟩
    · intro p k v F h hk hT hA hF
      obtain ⟨F, rfl⟩ : ∃ G, F = G + 1 := ⟨F - 1, by omega⟩
      have hpq := (xp_g _ _ _ _ _ h).2 rfl
      have hp : p < n := by omega
      have hA' : v 198 6 = Int32.ofNat p := hA
      have i6 : pm_in (Int32.ofNat k.length) 6 = true := in_nat (by omega) (by omega)
      rw [xp] at h
      rw [d_Mo_reckon_22, hA', cl_nat (show p ≤ 1000 by omega), hT.2 p hp]
      refine sf_c (in_nat (by omega) (by omega)) ?_
      have e73 : (73 : Int32).toInt = 73 := by decide
      have e76 : (76 : Int32).toInt = 76 := by decide
      have e40 : (40 : Int32).toInt = 40 := by decide
      have plain : ∀ (p2 : Nat), s p ≠ 73 → s p ≠ 76 → s p ≠ 40 → (xdig (s p) = true ∨ s p = 110 ∨ xvar (s p) = true) → p2 = (bif xdig (s p) then xnum s p else p + 1) → xp s m fx p2 k false = (true, q) →
          Sf ((d_Mo_plain w (Int32.ofNat l) v).bind fun q21 => bif pm_in (Int32.ofNat k.length) 6 then d_Mo_reckon_137 (rkK w F) w w (Int32.ofNat l) (Int32.ofNat k.length) (pd_w q21.2 220 (Int32.ofNat k.length).toNatClampNeg (d_Mo_joined (v 220 (Int32.ofNat k.length).toNatClampNeg) (v 221 (Int32.ofNat k.length).toNatClampNeg) q21.1)) else none) (RKP q v) := by
        intro p2 _ _ _ hx hp2 h2
        have g := (xp_g _ _ _ _ _ h2).1.1
        refine sf_bind (pl_t (f := 0) hw hn hl hT hA hp hx hq ?_) (fun r hr => ?_)
        · intro c
          rw [c] at hp2
          have hp2 : p2 = xnum s p := hp2
          subst hp2
          exact ⟨(xnum_g c).1, g, xp_nd h2 hd⟩
        · rw [← hp2] at hr
          refine sf_c i6 ?_
          have e := ME_w (k := (Int32.ofNat k.length).toNatClampNeg) (x := (d_Mo_joined (v 220 (Int32.ofNat k.length).toNatClampNeg) (v 221 (Int32.ofNat k.length).toNatClampNeg) r.1)) hr.1 (a := 220) (by omega)
          exact sf_mono (ihB p2 k _ F w h2 hk (TX_E hT e) (At_w hr.2 (by decide)) (by omega) (by omega)) (fun r2 h2 => RKP_t e h2)
      have h : (bif xdig (s p) then xp s m fx (xnum s p) k false
        else bif decide (s p = 110) || xvar (s p) then xp s m fx (p + 1) k false
        else bif decide (s p = 40) then (bif Nat.beq k.length m then (false, p) else xp s m fx (p + 1) (40 :: k) true)
        else bif decide (s p = 73) || decide (s p = 76) then (bif Nat.beq k.length m || !(decide (s (p + 1) = 91)) then (false, p + 1) else xp s m fx (p + 2) (s p :: k) true)
        else (false, p)) = (true, q) := h
      rcases pd_cases h with ⟨c, h⟩ | ⟨c, h⟩
      · have r := xdig_r c
        have n1 : s p ≠ 73 := fun e => by rw [e] at r; omega
        have n2 : s p ≠ 76 := fun e => by rw [e] at r; omega
        have n3 : s p ≠ 40 := fun e => by rw [e] at r; omega
        rw [decide_eq_false n1, decide_eq_false n2, decide_eq_false n3]
        exact sf_f (sf_f (sf_tt (sf_c i6 (sf_c i6 (plain _ n1 n2 n3 (Or.inl c) (by rw [c]; rfl) h)))))
      rcases pd_cases h with ⟨c2, h⟩ | ⟨c2, h⟩
      · have hx : s p = 110 ∨ xvar (s p) = true := by
          rcases or_c c2 with c3 | c3
          · exact Or.inl (of_decide_eq_true c3)
          · exact Or.inr c3
        have n4 : (s p).toInt = 110 ∨ 97 ≤ (s p).toInt := by
          rcases hx with hx | hx
          · rw [hx]; exact Or.inl (by decide)
          · exact Or.inr (xvar_r hx).1
        have n1 : s p ≠ 73 := fun e => by rw [e] at n4; omega
        have n2 : s p ≠ 76 := fun e => by rw [e] at n4; omega
        have n3 : s p ≠ 40 := fun e => by rw [e] at n4; omega
        rw [decide_eq_false n1, decide_eq_false n2, decide_eq_false n3]
        exact sf_f (sf_f (sf_tt (sf_c i6 (sf_c i6 (plain _ n1 n2 n3 (Or.inr hx) (by rw [c]; rfl) h)))))
      have i6' : ∀ {j : Nat}, j ≤ m → pm_in (Int32.ofNat j) 6 = true := fun hj => in_nat (by omega) (by omega)
      rcases pd_cases h with ⟨c3, h⟩ | ⟨c3, h⟩
      · have e : s p = 40 := of_decide_eq_true c3
        rcases pd_cases h with ⟨c4, h⟩ | ⟨c4, h⟩
        · exact ft_ne h
        have hk2 : k.length + 1 ≤ m := by
          have : k.length ≠ m := fun q => by rw [q, Nat.beq_refl] at c4; exact absurd c4 (by decide)
          omega
        have n1 : s p ≠ 73 := by rw [e]; decide
        have n2 : s p ≠ 76 := by rw [e]; decide
        rw [decide_eq_false n1, decide_eq_false n2, c3, ofN1 k.length, dec_ofNat k.length]
        refine sf_f (sf_f (sf_f (sf_f (sf_c i6 (sf_c (i6' hk2) (sf_c (i6' hk2) ?_))))))
        have e : ME v (pd_w (pd_w (pd_w (pd_w v 198 6 (Int32.ofNat p + (1 : Int32))) 219 (Int32.ofNat k.length).toNatClampNeg (s p)) 220 (Int32.ofNat (k.length + 1)).toNatClampNeg 0) 221 (Int32.ofNat (k.length + 1)).toNatClampNeg 43) := ME_w (ME_w (ME_w (ME_k ME_r (by omega)) (by omega)) (by omega)) (by omega)
        exact sf_mono (ihA (p + 1) (40 :: k) _ F h hk2 (TX_E hT e) (At_w (At_w (At_w At_1 (by decide)) (by decide)) (by decide)) (by omega)) (fun r2 h2 => RKP_t e h2)
      rcases pd_cases h with ⟨c4, h⟩ | ⟨c4, h⟩
      · rcases pd_cases h with ⟨c5, h⟩ | ⟨c5, h⟩
        · exact ft_ne h
        have hk2 : k.length + 1 ≤ m := by
          have : k.length ≠ m := fun q => by have := (or_f c5).1; rw [q, Nat.beq_refl] at this; exact absurd this (by decide)
          omega
        have e : ME v (pd_w (pd_w (pd_w (pd_w v 198 6 (Int32.ofNat p + (2 : Int32))) 219 (Int32.ofNat k.length).toNatClampNeg (s p)) 220 (Int32.ofNat (k.length + 1)).toNatClampNeg 0) 221 (Int32.ofNat (k.length + 1)).toNatClampNeg 43) := ME_w (ME_w (ME_w (ME_k ME_r (by omega)) (by omega)) (by omega)) (by omega)
        have fin := sf_mono (ihA (p + 2) (s p :: k) _ F h hk2 (TX_E hT e) (At_w (At_w (At_w At_2 (by decide)) (by decide)) (by decide)) (by omega)) (fun r2 h2 => RKP_t e h2)
        rw [c3, ofN1 k.length, dec_ofNat k.length]
        by_cases c6 : s p = 73
        · rw [decide_eq_true c6]
          exact sf_tt (sf_tt (sf_c i6 (sf_c (i6' hk2) (sf_c (i6' hk2) fin))))
        · have c7 : decide (s p = 76) = true := by
            rcases or_c c4 with c7 | c7
            · exact absurd (of_decide_eq_true c7) c6
            · exact c7
          rw [decide_eq_false c6, c7]
          exact sf_f (sf_tt (sf_tt (sf_c i6 (sf_c (i6' hk2) (sf_c (i6' hk2) fin)))))
      · exact ft_ne h
    · intro p k v F G h hk hT hA hF hG
      obtain ⟨G, rfl⟩ : ∃ H, G = H + 1 := ⟨G - 1, by omega⟩
      have hpq := (xp_g _ _ _ _ _ h).1.1
      have hp : p < n := by omega
      have hA' : v 198 6 = Int32.ofNat p := hA
      have i6 : pm_in (Int32.ofNat k.length) 6 = true := in_nat (by omega) (by omega)
      have ip : pm_in (Int32.ofNat p) 160 = true := in_nat (by omega) (by omega)
      have h : (bif xsgn (s p) then xp s m fx (p + 1) k true else bif k.isEmpty then (true, p) else bif decide (s p = xclo (k.headD 0)) then xp s m fx (p + 1) k.tail false else (false, p)) = (true, q) := by
        rw [xp] at h
        exact h
      rw [d_Mo_reckon_137, hT.1, hA', le_nat (by omega) (by omega), decide_eq_false (show ¬ n ≤ p by omega), cl_nat (show p ≤ 1000 by omega), hT.2 p hp]
      refine sf_f (sf_c ip ?_)
      rcases pd_cases h with ⟨c, h⟩ | ⟨c, h⟩
      · have c' : (!(decide (d_Mo_isSign (s p) = 0))) = true := c
        rw [c']
        refine sf_tt ?_
        unfold rkK
        rw [hT.1, hA', eq_nat (by omega) (by omega), decide_eq_false (show ¬ p = n by omega), cl_nat (show p ≤ 1000 by omega), hT.2 p hp, c']
        refine sf_f (sf_c ip (sf_tt (sf_c ip (sf_c i6 ?_))))
        have e : ME v (pd_w (pd_w v 221 (Int32.ofNat k.length).toNatClampNeg (s p)) 198 6 (Int32.ofNat p + (1 : Int32))) := ME_k (ME_w ME_r (by omega)) (by omega)
        exact sf_mono (ihA (p + 1) k _ F h hk (TX_E hT e) At_1 (by omega)) (fun r2 h2 => RKP_t e h2)
      · have c' : (!(decide (d_Mo_isSign (s p) = 0))) = false := c
        rw [c']
        refine sf_f ?_
        cases k with
        | nil =>
          have e : p = q := congrArg Prod.snd h
          subst e
          rw [show decide (Int32.ofNat ([] : List Int32).length ≤ 0) = true from by decide]
          refine sf_tt ?_
          unfold rkK
          rw [hT.1, hA', eq_nat (by omega) (by omega), decide_eq_false (show ¬ p = n by omega), cl_nat (show p ≤ 1000 by omega), hT.2 p hp, c']
          exact sf_f (sf_c ip (sf_f (rk_339 hA)))
        | cons c0 k =>
          have h : (bif decide (s p = xclo c0) then xp s m fx (p + 1) k false else (false, p)) = (true, q) := h
          rcases pd_cases h with ⟨c2, h⟩ | ⟨c2, h⟩
          · have hk3 : k.length + 1 ≤ m := hk
            have ik : pm_in (Int32.ofNat k.length) 6 = true := in_nat (by omega) (by omega)
            have i6 : pm_in (Int32.ofNat (k.length + 1)) 6 = true := i6
            have rcc : ∀ (fl val : Int32), Sf (d_Mo_reckon_137 (rkK w F) w G (Int32.ofNat l) (Int32.ofNat k.length) (pd_w (pd_w (pd_w v 198 6 (Int32.ofNat p + (1 : Int32))) 198 19 fl) 220 (Int32.ofNat k.length).toNatClampNeg val)) (RKP q v) := by
              intro fl val
              have e : ME v (pd_w (pd_w (pd_w v 198 6 (Int32.ofNat p + (1 : Int32))) 198 19 fl) 220 (Int32.ofNat k.length).toNatClampNeg val) := ME_w (ME_k (ME_k ME_r (by omega)) (by omega)) (by omega)
              exact sf_mono (ihB (p + 1) k _ F G h (by omega) (TX_E hT e) (At_w (At_19 At_1) (by decide)) (by omega) (by have : k.length + 1 < G + 1 := hG; omega)) (fun r2 h2 => RKP_t e h2)
            have trp : Sf (some ((0 : Int32), pd_w (pd_w v 198 6 (Int32.ofNat p + (1 : Int32))) 198 19 (1 : Int32))) (RKP q v) := sf_some ⟨ME_k (ME_k ME_r (by omega)) (by omega), fun e => absurd (show pd_w (pd_w v 198 6 (Int32.ofNat p + (1 : Int32))) 198 19 (1 : Int32) 198 19 = 0 from e) (by rw [pd_w_self]; decide)⟩
            have e0 : decide (Int32.ofNat (c0 :: k).length ≤ 0) = false := by
              show decide (Int32.ofNat (k.length + 1) ≤ 0) = false
              rw [le0 (show k.length + 1 ≤ 1000 by omega)]
              exact decide_eq_false (show ¬ k.length + 1 ≤ 0 by omega)
            rw [e0]
            refine sf_f ?_
            rw [show (c0 :: k).length = k.length + 1 from rfl, ofNm]
            refine sf_c i6 (sf_c ik ?_)
            by_cases o1 : v 219 (Int32.ofNat k.length).toNatClampNeg = 40
            · have o2 : v 219 (Int32.ofNat k.length).toNatClampNeg ≠ 73 := by rw [o1]; decide
              have o3 : v 219 (Int32.ofNat k.length).toNatClampNeg ≠ 76 := by rw [o1]; decide
              rw [decide_eq_true o1, decide_eq_false o2, decide_eq_false o3]
              refine sf_tt (sf_d (fun _ => ?_) (fun c => absurd rfl c))
              exact sf_tt (sf_tt (sf_c ik (sf_c ik (sf_c ik (rcc _ _)))))
            · rw [decide_eq_false o1]
              refine sf_f ?_
              by_cases o2 : v 219 (Int32.ofNat k.length).toNatClampNeg = 73
              · rw [decide_eq_true o2]
                refine sf_f ?_
                refine sf_d (fun b => ?_) (fun _ => ?_)
                · have b2 := bey0 b
                  have e15 : (15 : Int32).toInt = 15 := by decide
                  have ez := sI_0
                  refine sf_d (fun _ => ?_) (fun c => absurd rfl c)
                  exact sf_f (sf_c (pin (by omega)) (sf_c ik (sf_c ik (sf_c ik (rcc _ _)))))
                · exact sf_d (fun c => absurd c (by decide)) (fun _ => trp)
              · rw [decide_eq_false o2]
                refine sf_tt ?_
                refine sf_d (fun b => ?_) (fun _ => ?_)
                · have b2 := bey0 b
                  have e7 : (7 : Int32).toInt = 7 := by decide
                  have ez := sI_0
                  refine sf_d (fun _ => ?_) (fun c => absurd rfl c)
                  refine sf_tt (sf_n (fun _ => ?_) (fun _ => ?_))
                  · exact sf_c ik (sf_c ik (sf_c ik (rcc _ _)))
                  · exact sf_c (in_lane (N := 0) hl (by omega)) (sf_c ik (sf_c ik (sf_c ik (rcc _ _))))
                · exact sf_d (fun c => absurd c (by decide)) (fun _ => trp)
          · exact ft_ne h
/-- an expression as a lane's value -/
theorem rk_t {fx : Nat} (hw : 4294967296 < w) (hn : n ≤ 160) (hm : m ≤ 4) (hl : l < 16) (hq : q < n) (hd : xdig (s q) = false) (hf : fx ≤ w) (hT : TX n s v) (h : xp s m fx p [] true = (true, q)) : Sf (d_Mo_reckon w (Int32.ofNat l) (Int32.ofNat p) v) (RKP q v) := by
  unfold d_Mo_reckon
  refine sf_c (by decide) (sf_c (by decide) ?_)
  have e : ME v (pd_w (pd_w (pd_w v 198 6 (Int32.ofNat p)) 220 (0 : Int32).toNatClampNeg 0) 221 (0 : Int32).toNatClampNeg 43) := ME_w (ME_w (ME_k ME_r (by omega)) (by omega)) (by omega)
  exact sf_mono ((rk_AB hw hn hm hl hq hd fx).1 p [] _ w h (Nat.zero_le _) (TX_E hT e) (At_w (At_w (show pd_w v 198 6 (Int32.ofNat p) 198 6 = _ from pd_w_self) (by decide)) (by decide)) hf) (fun r2 h2 => RKP_t e h2)
def VP (l q : Nat) (v : pd_V) (r : Int32 × pd_V) : Prop := ME v r.2 ∧ (r.2 209 l = 0 → At q r.2)
theorem va_t {fx : Nat} {x : Int32} (hw : 4294967296 < w) (hn : n ≤ 160) (hm : m ≤ 4) (hl : l < 16) (hq : q < n) (hd : xdig (s q) = false) (hf : fx ≤ w) (hT : TX n s v) (h : xp s m fx p [] true = (true, q)) : Sf (d_Mo_valueOf w (Int32.ofNat l) (Int32.ofNat p) x v) (VP l q v) := by
  unfold d_Mo_valueOf
  have e : ME v (pd_w v 198 19 (0 : Int32)) := ME_k ME_r (by omega)
  refine sf_bind (rk_t hw hn hm hl hq hd hf (TX_E hT e) h) (fun r hr => ?_)
  have il : pm_in (Int32.ofNat l) 16 = true := in_nat hl (by omega)
  refine sf_d (fun c => ?_) (fun c => ?_)
  · exact sf_some ⟨ME_t e hr.1, fun _ => hr.2 c⟩
  · refine sf_c il (sf_c il (sf_some ⟨ME_w (ME_w (ME_t e hr.1) (by omega)) (by omega), fun z => ?_⟩))
    have z : pd_w (pd_w r.2 208 (Int32.ofNat l).toNatClampNeg (x + 1)) 209 (Int32.ofNat l).toNatClampNeg (1 : Int32) 209 l = 0 := z
    rw [cl_nat (by omega), pd_w_self] at z
    exact absurd z (by decide)
end RK2
