/-! the reference does a statement with all the lanes of its mask -/
def OTG (o : Nat) (v u : pd_V) : Prop := ∀ L D, L < 16 → (L < o ∨ o + 8 ≤ L) → MRL L D v → MRL L D u
def zps (f : Nat → Bool) : Nat → Int32
  | 0 => 0
  | l + 1 => zps f l + bi (f l)
section ZMT
variable {s : Nat → Int32} {n m w p q L l e0 p1 o : Nat} {v u t : pd_V} {x y M z : Int32} {inp : Nat → Int32} {D D' : xLD} {DD : Nat → xLD} {f h : Nat → Bool} {g : Nat → xLD → xLD}
theorem OTG_r : OTG o v v := fun _ _ _ _ h => h
theorem OTG_t (h1 : OTG o v u) (h2 : OTG o u t) : OTG o v t := fun L D a b h => h2 L D a b (h1 L D a b h)
theorem OTG_M (hl : l < 8) (h : OTM (o + l) v u) : OTG o v u := fun L D a b g => h L D a (by omega) g
theorem OTG_q (e : ∀ d, (204 ≤ d ∧ d ≤ 209) → u d = v d) : OTG o v u := fun _ _ _ _ h => MRL_q h e
theorem MRS_q (h : MRS o inp DD v) (e : ∀ d, (203 ≤ d ∧ d ≤ 209) → u d = v d) : MRS o inp DD u := ⟨fun j hj => by rw [e 203 (by omega)]; exact h.1 j hj, fun l hl => MRL_q (h.2 l hl) (fun d hd => e d (by omega))⟩
theorem MRS_1 (hl : l < 8) (ho : o = 0 ∨ o = 8) (h : MRS o inp (zup f g DD l) v) (hfl : f l = true) (hi : MIN inp u) (h1 : MRL (o + l) (g l (DD l)) u) (h2 : OTM (o + l) v u) : MRS o inp (zup f g DD (l + 1)) u := by
  refine ⟨hi, fun x hx => ?_⟩
  by_cases e : x = l
  · subst e
    have : zup f g DD (x + 1) x = g x (DD x) := by
      unfold zup
      rw [blt_t (by omega), hfl]
      rfl
    rw [this]
    exact h1
  · have : zup f g DD (l + 1) x = zup f g DD l x := by
      unfold zup
      by_cases z : x < l
      · rw [blt_t z, blt_t (by omega)]
      · rw [blt_f z, blt_f (by omega)]
    rw [this]
    exact h2 (o + x) _ (by omega) (by omega) (h.2 x hx)
theorem MRS_0 (h : MRS o inp (zup f g DD l) v) (hfl : f l = false) : MRS o inp (zup f g DD (l + 1)) v := by
  refine ⟨h.1, fun x hx => ?_⟩
  have : zup f g DD (l + 1) x = zup f g DD l x := by
    unfold zup
    by_cases e : x = l
    · subst e
      rw [hfl, Bool.and_false, Bool.and_false]
    · by_cases z : x < l
      · rw [blt_t z, blt_t (by omega)]
      · rw [blt_f z, blt_f (by omega)]
  rw [this]
  exact h.2 x hx
theorem bit_v {W : Int32} {i : Nat} (hi : i < 8) : (W >>> (Int32.ofNat i &&& 31)) &&& (1 : Int32) = bi (zbt W i) := by
  have h1 := of_decide_eq_true (List.all_eq_true.mp isIn_r i (List.mem_range.mpr hi))
  refine Int32.toBitVec_inj.mp ?_
  rw [Int32.toBitVec_and, Int32.toBitVec_shiftRight]
  show (W.toBitVec.sshiftRight ((Int32.ofNat i &&& 31).toBitVec.smod 32#32).toNat) &&& 1#32 = _
  rw [h1, BitVec.and_one_eq_setWidth_ofBool_getLsbD, BitVec.getLsbD_sshiftRight]
  unfold zbt
  rw [Nat.add_zero, if_pos (show i < 32 by omega)]
  cases W.toBitVec.getLsbD i <;> decide
theorem bit_k (hM : MK8 f M) (hl : l < 8) : (M >>> (Int32.ofNat l &&& 31)) &&& (1 : Int32) = bi (f l) := by
  rw [bit_v hl, hM l, decide_eq_true hl, Bool.true_and]
theorem bi_1 {b : Bool} : decide (bi b = 1) = b := by cases b <;> decide
/-- those that go on -/
theorem zgo_m (hM : MK8 f M) (hD : ∀ l, l < 8 → v 209 l = bi (DD l).2.2.2.2.2) : ∀ (F l : Nat) (z : Int32), l ≤ 8 → MK8 (fun x => Nat.blt x l && zgo f DD x) z → Pf (d_Mo_going_4 w F M z (Int32.ofNat l) v) (MK8 (zgo f DD)) := by
  intro F
  induction F with
  | zero => intro l z _ _; rw [d_Mo_going_4]; exact pf_none
  | succ F ih =>
    intro l z hl hz
    rw [d_Mo_going_4, decide_eq_decide.mpr (lane8 hl)]
    refine pf_d (fun c => pf_some (MK8_e hz (fun x hx => ?_))) (fun c => ?_)
    · show zgo f DD x = (Nat.blt x l && zgo f DD x)
      rw [blt_t (by omega)]
      rfl
    · have hl' : l < 8 := by omega
      rw [bit_k hM hl', ofN1 l, bi_1, cl_nat (show l ≤ 1000 by omega), hD l hl', bi_0]
      have nxt : zgo f DD l = false → Pf (d_Mo_going_4 w F M z (Int32.ofNat (l + 1)) v) (MK8 (zgo f DD)) := fun hg => by
        refine ih (l + 1) z (by omega) (MK8_e hz (fun x hx => ?_))
        show (Nat.blt x (l + 1) && zgo f DD x) = (Nat.blt x l && zgo f DD x)
        by_cases e : x = l
        · rw [e, hg, Bool.and_false, Bool.and_false]
        · by_cases q : x < l
          · rw [blt_t q, blt_t (by omega)]
          · rw [blt_f q, blt_f (by omega)]
      cases hfl : f l with
      | false => exact pf_t (nxt (by unfold zgo; rw [hfl]; rfl))
      | true =>
        refine pf_f (pf_c (fun _ => ?_))
        cases hs : (DD l).2.2.2.2.2 with
        | true => exact pf_t (nxt (by unfold zgo; rw [hfl, hs]; rfl))
        | false =>
          refine pf_f (ih (l + 1) _ (by omega) (MK8_e (MK8_s hz hl') (fun x hx => ?_)))
          show (Nat.blt x (l + 1) && zgo f DD x) = ((Nat.blt x l && zgo f DD x) || Nat.beq x l)
          by_cases e : x = l
          · rw [e, blt_t (by omega), Nat.beq_refl, Bool.or_true]
            unfold zgo
            rw [hfl, hs]
            rfl
          · rw [beq_f e, Bool.or_false]
            by_cases q : x < l
            · rw [blt_t q, blt_t (by omega)]
            · rw [blt_f q, blt_f (by omega)]
theorem zgo_t (hw : 4294967296 < w) (hM : MK8 f M) (hR : MRS 0 inp DD v) : ∃ G, d_Mo_going w M v = some G ∧ MK8 (zgo f DD) G := by
  have h1 : Pf (d_Mo_going w M v) (MK8 (zgo f DD)) := by
    unfold d_Mo_going
    exact zgo_m hM (fun l hl => by
      have := (hR.2 l hl).2.2.2.2.2
      rw [Nat.zero_add] at this
      exact this) w 0 0 (by omega) (MK8_e MK8_0 (fun x _ => by
      show (Nat.blt x 0 && _) = false
      rw [blt_f (Nat.not_lt_zero x)]
      rfl))
  obtain ⟨G, e, -⟩ := go_t (x := M) (v := v) hw
  exact ⟨G, e, h1 G e⟩
/-- who goes into a block -/
theorem ztm_m (hw : 4294967296 < w) (hn : n ≤ 160) (h0 : ∀ j, n ≤ j → s j = 0) (hp1 : p1 ≤ n) (hen : e0 < n) (hd : xdig (s e0) = false) (hE : xE s p1 = (true, e0)) (hM : MK8 f M) (hst : ∀ x, x < 8 → f x = true → (DD x).2.2.2.2.2 = false) : ∀ (F l : Nat) (z : Int32) (v : pd_V), l ≤ 8 → TX n s v → MRS 0 inp (zup f (fun x D => (zdc s n inp x p p1 D).2) DD l) v → MK8 (fun x => Nat.blt x l && (f x && !(decide ((zdc s n inp x p p1 (DD x)).1 = 0)))) z → Pf (d_Mo_truth_6 w F M (Int32.ofNat p1) (Int32.ofNat p) z (Int32.ofNat l) v) (fun r => MK8 (fun x => f x && !(decide ((zdc s n inp x p p1 (DD x)).1 = 0))) r.1 ∧ MRS 0 inp (zup f (fun x D => (zdc s n inp x p p1 D).2) DD 8) r.2 ∧ OTG 0 v r.2) := by
  intro F
  induction F with
  | zero => intro l z v _ _ _ _; rw [d_Mo_truth_6]; exact pf_none
  | succ F ih =>
    intro l z v hl hT hC hz
    rw [d_Mo_truth_6, decide_eq_decide.mpr (lane8 hl)]
    refine pf_d (fun c => ?_) (fun c => ?_)
    · have e : l = 8 := by omega
      subst e
      refine pf_some ⟨MK8_e hz (fun x hx => ?_), hC, OTG_r⟩
      show _ = (Nat.blt x 8 && (f x && !(decide ((zdc s n inp x p p1 (DD x)).1 = 0))))
      rw [blt_t hx]
      rfl
    · have hl' : l < 8 := by omega
      rw [bit_k hM hl', ofN1 l, bi_0, Bool.not_not]
      have same : ∀ (b : Bool), (f l && !(decide ((zdc s n inp l p p1 (DD l)).1 = 0))) = b → ∀ x, x < 8 → (Nat.blt x (l + 1) && (f x && !(decide ((zdc s n inp x p p1 (DD x)).1 = 0)))) = ((Nat.blt x l && (f x && !(decide ((zdc s n inp x p p1 (DD x)).1 = 0)))) || (Nat.beq x l && b)) := by
        intro b hb x hx
        by_cases e : x = l
        · subst e
          rw [blt_t (by omega), blt_f (Nat.lt_irrefl x), Nat.beq_refl, hb]
          cases b <;> rfl
        · rw [beq_f e]
          by_cases q : x < l
          · rw [blt_t q, blt_t (by omega), Bool.false_and, Bool.or_false]
          · rw [blt_f q, blt_f (by omega)]
            rfl
      cases hfl : f l with
      | false =>
        refine pf_f ?_
        refine ih (l + 1) z v (by omega) hT (MRS_0 hC hfl) (MK8_e hz (fun x hx => ?_))
        show (Nat.blt x (l + 1) && (f x && !(decide ((zdc s n inp x p p1 (DD x)).1 = 0)))) = (Nat.blt x l && (f x && !(decide ((zdc s n inp x p p1 (DD x)).1 = 0))))
        rw [same false (by rw [hfl]; rfl) x hx, Bool.and_false, Bool.or_false]
      | true =>
        refine pf_t ?_
        have hD := hC.2 l hl'
        rw [zup_l, Nat.zero_add] at hD
        have hs := hst l hl' hfl
        refine pf_bind (pf_sf (vlq_t (x := Int32.ofNat p) hw hn h0 (Nat.le_refl 4) (show l < 16 by omega) hp1 hen hd hT (EE_M (show l % 8 = l by omega) hC.1 hD) hE)) (fun q3 h3 => ?_)
        have hV := VQ_M hD hs h3
        have T3 := TX_V hT h3
        have I3 := MIN_V hC.1 h3
        have next : ∀ (Z : Int32), MRL l (zdc s n inp l p p1 (DD l)).2 q3.2 → MK8 (fun x => Nat.blt x (l + 1) && (f x && !(decide ((zdc s n inp x p p1 (DD x)).1 = 0)))) Z → Pf (d_Mo_truth_6 w F M (Int32.ofNat p1) (Int32.ofNat p) Z (Int32.ofNat (l + 1)) q3.2) (fun r => MK8 (fun x => f x && !(decide ((zdc s n inp x p p1 (DD x)).1 = 0))) r.1 ∧ MRS 0 inp (zup f (fun x D => (zdc s n inp x p p1 D).2) DD 8) r.2 ∧ OTG 0 v r.2) := by
          intro Z hm hZ
          have hot : OTM (0 + l) v q3.2 := by rw [Nat.zero_add]; exact hV.2.2
          refine pf_mono (ih (l + 1) Z q3.2 (by omega) T3 (MRS_1 hl' (Or.inl rfl) hC hfl I3 (by rw [Nat.zero_add]; exact hm) hot) hZ) (fun r hr => ⟨hr.1, hr.2.1, OTG_t (OTG_M hl' hot) hr.2.2⟩)
        rw [cl_nat (show l ≤ 1000 by omega)]
        have skip : MRL l (zdc s n inp l p p1 (DD l)).2 q3.2 → (zdc s n inp l p p1 (DD l)).1 = 0 → Pf (d_Mo_truth_6 w F M (Int32.ofNat p1) (Int32.ofNat p) z (Int32.ofNat (l + 1)) q3.2) (fun r => MK8 (fun x => f x && !(decide ((zdc s n inp x p p1 (DD x)).1 = 0))) r.1 ∧ MRS 0 inp (zup f (fun x D => (zdc s n inp x p p1 D).2) DD 8) r.2 ∧ OTG 0 v r.2) := by
          intro hm h0'
          refine next z hm (MK8_e hz (fun x hx => ?_))
          show (Nat.blt x (l + 1) && (f x && !(decide ((zdc s n inp x p p1 (DD x)).1 = 0)))) = (Nat.blt x l && (f x && !(decide ((zdc s n inp x p p1 (DD x)).1 = 0))))
          rw [same false (by rw [h0', hfl]; decide) x hx, Bool.and_false, Bool.or_false]
        cases ho : xw s n (zev inp l (DD l)) p1 with
        | none =>
          have hzd : zdc s n inp l p p1 (DD l) = ((0 : Int32), ztr p (DD l)) := by unfold zdc; rw [ho]; rfl
          obtain ⟨m1, m2⟩ := hV.2.1 ho
          have sk := skip (by rw [hzd]; exact m1) (by rw [hzd])
          exact pf_b sk (pf_c (fun _ => pf_n (fun _ => sk) (fun q => absurd (m2.symm.trans q) (by decide))))
        | some y' =>
          have hzd : zdc s n inp l p p1 (DD l) = (y', DD l) := by unfold zdc; rw [ho]; rfl
          obtain ⟨m1, m2, m3, m4⟩ := hV.1 y' ho
          rw [m1]
          refine pf_d (fun hy => skip (by rw [hzd]; exact m3) (by rw [hzd]; exact hy)) (fun hy => pf_c (fun _ => pf_n (fun q => absurd m4 q) (fun _ => ?_)))
          refine next _ (by rw [hzd]; exact m3) (MK8_e (MK8_s hz hl') (fun x hx => ?_))
          show (Nat.blt x (l + 1) && (f x && !(decide ((zdc s n inp x p p1 (DD x)).1 = 0)))) = ((Nat.blt x l && (f x && !(decide ((zdc s n inp x p p1 (DD x)).1 = 0)))) || Nat.beq x l)
          rw [same true (by rw [hzd, hfl, decide_eq_false hy]; rfl) x hx, Bool.and_true]
theorem ztm_t (hw : 4294967296 < w) (hn : n ≤ 160) (h0 : ∀ j, n ≤ j → s j = 0) (hp1 : p1 ≤ n) (hen : e0 < n) (hd : xdig (s e0) = false) (hE : xE s p1 = (true, e0)) (hM : MK8 f M) (hst : ∀ x, x < 8 → f x = true → (DD x).2.2.2.2.2 = false) (hT : TX n s v) (hC : MRS 0 inp DD v) : Sf (d_Mo_truth w M (Int32.ofNat p1) (Int32.ofNat p) v) (fun r => (MK8 (fun x => f x && !(decide ((zdc s n inp x p p1 (DD x)).1 = 0))) r.1 ∧ MRS 0 inp (zup f (fun x D => (zdc s n inp x p p1 D).2) DD 8) r.2 ∧ OTG 0 v r.2) ∧ ME v r.2) := by
  have h1 := tr_t (x := M) (y := Int32.ofNat p) hw hn hen hd hE hT
  obtain ⟨r, e, hr⟩ := h1
  refine ⟨r, e, ?_, hr⟩
  have h2 : Pf (d_Mo_truth w M (Int32.ofNat p1) (Int32.ofNat p) v) (fun r => MK8 (fun x => f x && !(decide ((zdc s n inp x p p1 (DD x)).1 = 0))) r.1 ∧ MRS 0 inp (zup f (fun x D => (zdc s n inp x p p1 D).2) DD 8) r.2 ∧ OTG 0 v r.2) := by
    unfold d_Mo_truth
    exact ztm_m hw hn h0 hp1 hen hd hE hM hst w 0 0 v (by omega) hT (by rw [zup_0]; exact hC) (MK8_e MK8_0 (fun x _ => by
      show (Nat.blt x 0 && _) = false
      rw [blt_f (Nat.not_lt_zero x)]
      rfl))
  exact h2 r e
/-- one statement is counted -/
theorem zps_8 : zps f 8 = zpc f := by
  show (0 : Int32) + bi (f 0) + bi (f 1) + bi (f 2) + bi (f 3) + bi (f 4) + bi (f 5) + bi (f 6) + bi (f 7) = zpc f
  rw [Int32.zero_add]
  rfl
theorem zic_m (hM : MK8 f M) : ∀ (F l : Nat) (v : pd_V), l ≤ 8 → v 198 24 = z + zps f l → Pf (d_Mo_issues_35 w F M (Int32.ofNat l) v) (fun r => r.1 = 1 ∧ r.2 198 24 = z + zpc f ∧ (∀ d, d ≠ 198 → r.2 d = v d) ∧ (∀ k, k ≠ 24 → r.2 198 k = v 198 k)) := by
  intro F
  induction F with
  | zero => intro l v _ _; rw [d_Mo_issues_35]; exact pf_none
  | succ F ih =>
    intro l v hl hz
    rw [d_Mo_issues_35, decide_eq_decide.mpr (lane8 hl)]
    refine pf_d (fun c => ?_) (fun c => ?_)
    · have e : l = 8 := by omega
      subst e
      rw [zps_8] at hz
      exact pf_some ⟨rfl, hz, fun _ _ => rfl, fun _ _ => rfl⟩
    · have hl' : l < 8 := by omega
      rw [bit_k hM hl', ofN1 l]
      refine pf_mono (ih (l + 1) _ (by omega) ?_) (fun r hr => ⟨hr.1, hr.2.1, fun d hd => (hr.2.2.1 d hd).trans (pd_wa hd), fun k hk => (hr.2.2.2 k hk).trans (pd_w_nk hk)⟩)
      rw [pd_w_self, hz]
      exact Int32.add_assoc _ _ _
theorem zic_t (hw : 4294967296 < w) (hM : MK8 f M) : (v 198 23 = v 198 22 → d_Mo_issues w M v = some (0, pd_w (pd_w v 198 25 (1 : Int32)) 198 26 M)) ∧ (v 198 23 ≠ v 198 22 → Sf (d_Mo_issues w M v) (fun r => r.1 = 1 ∧ r.2 198 24 = v 198 24 + zpc f ∧ r.2 198 23 = v 198 23 + 1 ∧ (∀ d, d ≠ 198 → r.2 d = v d) ∧ (∀ k, k ≠ 24 → k ≠ 23 → r.2 198 k = v 198 k))) := by
  refine ⟨fun h => ?_, fun h => ?_⟩
  · unfold d_Mo_issues
    rw [decide_eq_true h]
    rfl
  · obtain ⟨r, e, -⟩ := is_t (y := M) (v := v) hw
    refine ⟨r, e, ?_⟩
    have h2 : Pf (d_Mo_issues w M v) (fun r => r.1 = 1 ∧ r.2 198 24 = v 198 24 + zpc f ∧ r.2 198 23 = v 198 23 + 1 ∧ (∀ d, d ≠ 198 → r.2 d = v d) ∧ (∀ k, k ≠ 24 → k ≠ 23 → r.2 198 k = v 198 k)) := by
      unfold d_Mo_issues
      rw [decide_eq_false h]
      refine pf_t (pf_mono (zic_m (z := v 198 24) hM w 0 _ (by omega) (by
        rw [pd_w_nk (by decide)]
        exact (Int32.add_zero _).symm)) (fun r hr => ⟨hr.1, hr.2.1, by rw [hr.2.2.2 23 (by decide), pd_w_self], fun d hd => (hr.2.2.1 d hd).trans (pd_wa hd), fun k a b => (hr.2.2.2 k a).trans (pd_w_nk b)⟩))
    exact h2 r e
end ZMT
