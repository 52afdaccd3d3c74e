/-! the class does a statement with all the lanes of its mask -/
section ZCI
variable {s : Nat → Int32} {n m w a b c l p q i i1 nb j e0 p1 : Nat} {v u t : pd_V} {x y M S : Int32} {inp : Nat → Int32} {D D' : xLD} {DD : Nat → xLD} {f h : Nat → Bool} {g : Nat → xLD → xLD}
theorem WI_q {it : List (Int32 × Int32)} (h : WI s n a i p q it v) (e2 : u (a + 2) = v (a + 2)) (e3 : u (a + 3) = v (a + 3)) : WI s n a i p q it u := ⟨fun t y hy => by rw [e2, e3]; exact h.1 t y hy, h.2⟩
theorem ZW_q (h : ZW s n a b p q i1 v) (eb : u b = v b) (e2 : u (a + 2) = v (a + 2)) (e3 : u (a + 3) = v (a + 3)) : ZW s n a b p q i1 u := by
  obtain ⟨i, it, w7, w8, w9, w10, wl, wi⟩ := h
  exact ⟨i, it, by rw [eb]; exact w7, by rw [eb]; exact w8, by rw [eb]; exact w9, by rw [eb]; exact w10, wl, WI_q wi e2 e3⟩
theorem ZR_q (h : ZR s n a b p nb i1 v) (eb : u b = v b) (e2 : u (a + 2) = v (a + 2)) (e3 : u (a + 3) = v (a + 3)) : ZR s n a b p nb i1 u := ZR_f h (Nat.le_refl _) (fun f _ _ => by rw [eb]) (fun t _ => by rw [e2, e3]; exact ⟨rfl, rfl⟩)
/-- a statement that opens no block and is no X -/
theorem zci_m (hw : 4294967296 < w) (hn : n ≤ 160) (h0 : ∀ j, n ≤ j → s j = 0) (ha : ker a) (hb : b = a + 4 + j ∧ j < 80) (hi1 : i1 ≤ 160) (hX : XS s p e0) (he : s e0 = 59) (h88 : s p ≠ 88) (hcn : ∀ x, x < 8 → (DD x).2.2.2.1 < 2000000000) : ∀ (F l : Nat) (v : pd_V), l ≤ 8 → ZR s n a b p nb i1 v → MK8 f (v 173 3) → CRS 174 inp (zup f (fun x => zac s n inp x p) DD l) v → Pf (d_To_issue_78 w F a b (Int32.ofNat l) v) (fun q => ∃ u, q = pd_w (pd_w u 173 3 ((u 173 3) &&& ((u 174 10) ^^^ (-1 : Int32)))) 173 6 ((u 173 6) + (1 : Int32)) ∧ CRS 174 inp (zup f (fun x => zac s n inp x p) DD 8) u ∧ Fr 174 184 v u) := by
  have pa : a = 3 ∨ a = 88 := ha
  intro F
  induction F with
  | zero => intro l v _ _ _ _; rw [d_To_issue_78]; exact pf_none
  | succ F ih =>
    intro l v hl hR hM hC
    rw [d_To_issue_78, decide_eq_decide.mpr (lane8 hl)]
    refine pf_d (fun c => ?_) (fun c => ?_)
    · have e : l = 8 := by omega
      subst e
      exact pf_some ⟨v, rfl, hC, Fr_r⟩
    · have hl' : l < 8 := by omega
      rw [MK8_i hM hl', ofN1 l]
      cases hfl : f l with
      | false =>
        refine pf_t ?_
        exact ih (l + 1) v (by omega) hR hM (CRS_0 hC hfl)
      | true =>
        refine pf_f ?_
        have hD := hC.2 l hl'
        rw [zup_l] at hD
        refine pf_bind (pf_and (pf_sf (t_Cr_act (l3 := Int32.ofNat l) (v := v) hw crw_174 ha (show stp b by unfold stp; omega))) (zca_t hn h0 hl' ha crw_174 hb hi1 hR hX he h88 hC.1 hD (hcn l hl'))) (fun q4 h4 => ?_)
        obtain ⟨⟨hF, -⟩, hA⟩ := h4
        have fr : ∀ d, (d < 174 ∨ 184 ≤ d) → q4 d = v d := fun d hd => hF d (by omega)
        refine pf_mono (ih (l + 1) q4 (by omega) (ZR_q hR (fr b (by omega)) (fr _ (by omega)) (fr _ (by omega))) (by rw [fr 173 (by omega)]; exact hM) (CRS_1 hl' hC hfl hA)) (fun r hr => ?_)
        obtain ⟨u, e1, e2, e3⟩ := hr
        exact ⟨u, e1, e2, fun d hd => (e3 d hd).trans (fr d hd)⟩
theorem zand3_r : (List.range 4).all (fun k => decide (Int32.ofNat k &&& 3 = Int32.ofNat k)) = true := by decide +kernel
theorem zand3 {k : Nat} (h : k ≤ 3) : Int32.ofNat k &&& (3 : Int32) = Int32.ofNat k := of_decide_eq_true (List.all_eq_true.mp zand3_r k (List.mem_range.mpr (by omega)))
/-- a head -/
theorem zpa_m (hw : 4294967296 < w) (hn : n ≤ 160) (ha : ker a) (hb : b = a + 4 + j ∧ j < 80) (hi1 : i1 ≤ 160) (hen : e0 ≤ n) (hes : xsgn (s e0) = false) (hnb : nb ≤ 3) : ∀ (F l : Nat) (l3 : Int32) (v : pd_V), l ≤ 8 → v b 1 = Int32.ofNat p → v b 2 = Int32.ofNat nb → ZW s n a b p1 e0 i1 v → MK8 f (v 173 3) → CRS 174 inp (zup f (fun x D => (zdc s n inp x p p1 D).2) DD l) v → MK8 (fun x => Nat.blt x l && (f x && !(decide ((zdc s n inp x p p1 (DD x)).1 = 0)))) l3 → Pf (d_To_part_5 w F a b l3 (Int32.ofNat l) v) (fun q => ∃ u L3, q = pd_w (pd_w (pd_w u 184 nb ((u 184 nb) ||| (u 173 3))) 185 nb ((u 173 3) &&& (L3 ^^^ (-1 : Int32)))) 173 3 L3 ∧ MK8 (fun x => f x && !(decide ((zdc s n inp x p p1 (DD x)).1 = 0))) L3 ∧ CRS 174 inp (zup f (fun x D => (zdc s n inp x p p1 D).2) DD 8) u ∧ Fr 174 184 v u) := by
  have pa : a = 3 ∨ a = 88 := ha
  intro F
  induction F with
  | zero => intro l l3 v _ _ _ _ _ _ _; rw [d_To_part_5]; exact pf_none
  | succ F ih =>
    intro l l3 v hl hb1 hb2 hW hM hC hL
    rw [d_To_part_5, decide_eq_decide.mpr (lane8 hl)]
    refine pf_d (fun c => ?_) (fun c => ?_)
    · have e : l = 8 := by omega
      subst e
      rw [hb2, zand3 hnb, cl_nat (by omega)]
      refine pf_c (fun _ => pf_c (fun _ => pf_c (fun _ => pf_some ⟨v, l3, rfl, MK8_e hL (fun x hx => ?_), hC, Fr_r⟩)))
      show _ = (Nat.blt x 8 && (f x && !(decide ((zdc s n inp x p p1 (DD x)).1 = 0))))
      rw [blt_t hx]
      rfl
    · have hl' : l < 8 := by omega
      rw [MK8_i hM hl', ofN1 l]
      have same : ∀ (z : Bool), (f l && !(decide ((zdc s n inp l p p1 (DD l)).1 = 0))) = z → ∀ x, x < 8 → (Nat.blt x (l + 1) && (f x && !(decide ((zdc s n inp x p p1 (DD x)).1 = 0)))) = ((Nat.blt x l && (f x && !(decide ((zdc s n inp x p p1 (DD x)).1 = 0)))) || (Nat.beq x l && z)) := by
        intro z hz x hx
        by_cases e : x = l
        · subst e
          rw [blt_t (by omega), blt_f (Nat.lt_irrefl x), Nat.beq_refl, hz]
          cases z <;> rfl
        · rw [beq_f e]
          by_cases q : x < l
          · rw [blt_t q, blt_t (by omega), Bool.false_and, Bool.or_false]
          · rw [blt_f q, blt_f (by omega)]
            rfl
      cases hfl : f l with
      | false =>
        refine pf_t ?_
        refine ih (l + 1) l3 v (by omega) hb1 hb2 hW hM (CRS_0 hC hfl) (MK8_e hL (fun x hx => ?_))
        show (Nat.blt x (l + 1) && (f x && !(decide ((zdc s n inp x p p1 (DD x)).1 = 0)))) = (Nat.blt x l && (f x && !(decide ((zdc s n inp x p p1 (DD x)).1 = 0))))
        rw [same false (by rw [hfl]; rfl) x hx, Bool.and_false, Bool.or_false]
      | true =>
        refine pf_f ?_
        have hD := hC.2 l hl'
        rw [zup_l] at hD
        refine pf_bind (pf_and (pf_sf (t_Cr_decide (l3 := Int32.ofNat l) (v := v) hw crw_174 ha (show stp b by unfold stp; omega))) (zcd_t hn hl' ha crw_174 hb hi1 hb1 hW hen hes hC.1 hD)) (fun q7 h7 => ?_)
        obtain ⟨⟨hF, -⟩, hv, hA⟩ := h7
        have fr : ∀ d, (d < 174 ∨ 184 ≤ d) → q7.2 d = v d := fun d hd => hF d (by omega)
        have next : ∀ (L : Int32), MK8 (fun x => Nat.blt x (l + 1) && (f x && !(decide ((zdc s n inp x p p1 (DD x)).1 = 0)))) L → Pf (d_To_part_5 w F a b L (Int32.ofNat (l + 1)) q7.2) (fun q => ∃ u L3, q = pd_w (pd_w (pd_w u 184 nb ((u 184 nb) ||| (u 173 3))) 185 nb ((u 173 3) &&& (L3 ^^^ (-1 : Int32)))) 173 3 L3 ∧ MK8 (fun x => f x && !(decide ((zdc s n inp x p p1 (DD x)).1 = 0))) L3 ∧ CRS 174 inp (zup f (fun x D => (zdc s n inp x p p1 D).2) DD 8) u ∧ Fr 174 184 v u) := by
          intro L hL2
          refine pf_mono (ih (l + 1) L q7.2 (by omega) (by rw [fr b (by omega)]; exact hb1) (by rw [fr b (by omega)]; exact hb2) (ZW_q hW (fr b (by omega)) (fr _ (by omega)) (fr _ (by omega))) (by rw [fr 173 (by omega)]; exact hM) (CRS_1 hl' hC hfl hA) hL2) (fun r hr => ?_)
          obtain ⟨u, L3, e1, e2, e3, e4⟩ := hr
          exact ⟨u, L3, e1, e2, e3, fun d hd => (e4 d hd).trans (fr d hd)⟩
        rw [hv]
        refine pf_d (fun z => next l3 (MK8_e hL (fun x hx => ?_))) (fun z => next _ (MK8_e (MK8_s hL hl') (fun x hx => ?_)))
        · show (Nat.blt x (l + 1) && (f x && !(decide ((zdc s n inp x p p1 (DD x)).1 = 0)))) = (Nat.blt x l && (f x && !(decide ((zdc s n inp x p p1 (DD x)).1 = 0))))
          rw [same false (by rw [decide_eq_true z, hfl]; rfl) x hx, Bool.and_false, Bool.or_false]
        · show (Nat.blt x (l + 1) && (f x && !(decide ((zdc s n inp x p p1 (DD x)).1 = 0)))) = ((Nat.blt x l && (f x && !(decide ((zdc s n inp x p p1 (DD x)).1 = 0)))) || Nat.beq x l)
          rw [same true (by rw [decide_eq_false z, hfl]; rfl) x hx, Bool.and_true]
end ZCI
