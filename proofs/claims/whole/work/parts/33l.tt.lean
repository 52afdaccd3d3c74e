/-! the reference reads a text -/
def BL (v : pd_V) : xK → Prop
  | [] => True
  | (_, m) :: k => v 212 k.length = (bif Nat.beq m 1 then 1 else 2) ∧ BL v k
section TT
variable {s : Nat → Int32} {n w : Nat} {v u q : pd_V} {p : Nat} {x : Int32} {k k0 : xK}
theorem BL_e (h : BL v k) (e : ∀ j, j < k.length → q 212 j = v 212 j) : BL q k := by
  induction k with
  | nil => exact trivial
  | cons y k ih =>
    obtain ⟨a, m⟩ := y
    exact ⟨by rw [e _ (by show k.length < k.length + 1; omega)]; exact h.1, ih h.2 (fun j hj => e j (by show j < k.length + 1; omega))⟩
def ITP (s : Nat → Int32) (n : Nat) (v : pd_V) (r : Int32 × pd_V) : Prop := (r.1 ≠ 0 → xR s n []) ∧ MP v r.2
theorem ITP_t {r : Int32 × pd_V} (h : MP v u) (hr : ITP s n u r) : ITP s n v r := ⟨hr.1, MP_t h hr.2⟩
theorem ITP_0 (h : MP v u) : ITP s n v ((0 : Int32), u) := ⟨fun z => absurd rfl z, h⟩
theorem it_m (hw : 4294967296 < w) (hn : n ≤ 160) (h0 : ∀ j, n ≤ j → s j = 0) : ∀ (F p : Nat) (k : xK) (v : pd_V), n + 1 - p < F → p ≤ n → DR n s v → At p v → xR s p k → BL v k → Sf (d_Mo_isText_7 w F (Int32.ofNat k.length) v) (ITP s n v) := by
  intro F
  induction F with
  | zero => intro p k v h; exact absurd h (Nat.not_lt_zero _)
  | succ F ih =>
    intro p k v hF hp hD hA hR hB
    have hA' : v 198 6 = Int32.ofNat p := hA
    have k4 := xSI_4 (xR_SI hR)
    have i40 : pm_in (Int32.ofNat k.length) 40 = true := in_nat (by omega) (by omega)
    have M1 : MP v (pd_w v 198 6 (Int32.ofNat p + (1 : Int32))) := MP_6 MP_r
    have next : ∀ (p' : Nat) (k' : xK) (u : pd_V), xns s p k = (true, p', k') → p < p' → p' ≤ n → MP v u → At p' u → BL u k' → Sf (d_Mo_isText_7 w F (Int32.ofNat k'.length) u) (ITP s n v) := by
      intro p' k' u e1 e2 e3 e4 e5 e6
      exact sf_mono (ih p' k' u (by omega) e3 (DR_P hD e4) e5 (xR_s hR e1) e6) (fun r hr => ITP_t e4 hr)
    have headT : (s p = 63 ∨ s p = 42) → Sf ((d_Mo_isExpression w (0 : Int32) (pd_w v 198 6 ((v 198 6) + (1 : Int32)))).bind fun q5 => bif decide (q5.1 = 0) then d_Mo_isText_126 w q5.2 else bif decide (Int32.ofNat k.length = (4 : Int32)) then d_Mo_isText_126 w q5.2 else (d_Mo_takes (123 : Int32) q5.2).bind fun q8 => bif !(decide (q8.1 = 0)) then bif !(decide (s p = (63 : Int32))) then bif pm_in (Int32.ofNat k.length) 40 then d_Mo_isText_7 w F (Int32.ofNat k.length + (1 : Int32)) (pd_w q8.2 212 (Int32.ofNat k.length).toNatClampNeg (2 : Int32)) else none else bif pm_in (Int32.ofNat k.length) 40 then d_Mo_isText_7 w F (Int32.ofNat k.length + (1 : Int32)) (pd_w q8.2 212 (Int32.ofNat k.length).toNatClampNeg (1 : Int32)) else none else d_Mo_isText_126 w q8.2) (ITP s n v) := by
      intro hs
      have p1 : p + 1 ≤ n := by
        rcases hs with h | h
        · have := lt_n h0 h (by decide); omega
        · have := lt_n h0 h (by decide); omega
      unfold d_Mo_isText_126
      rw [hA']
      refine sf_bind (ie_0 hw hn h0 (DR_P hD M1) At_1 p1) (fun r hr => ?_)
      obtain ⟨r1, r2, r3, r4⟩ := hr
      have hb := xE_b (s := s) h0 p1
      have M2 := MP_t M1 r3
      have e212 : r.2 212 = v 212 := r4.trans (pd_wa (by decide))
      cases e : xE s (p + 1) with
      | mk b r0 =>
        rw [e] at r1 r2 hb
        have r1 : r.1 = bi b := r1
        have hb : r0 ≤ n := hb
        rw [r1]
        cases b with
        | false => exact sf_d (fun _ => sf_some (ITP_0 M2)) (fun c => absurd rfl c)
        | true =>
          refine sf_d (fun c => absurd (show (1 : Int32) = 0 from c) (by decide)) (fun _ => ?_)
          rw [show (4 : Int32) = Int32.ofNat 4 from rfl, eq_nat (by omega) (by omega)]
          refine sf_d (fun _ => sf_some (ITP_0 M2)) (fun c4 => ?_)
          rw [tk_t hn h0 (DR_P hD M2) r2 (by omega)]
          refine sf_sb ?_
          cases c123 : decide (s r0 = 123) with
          | false => exact sf_n (fun c => absurd rfl c) (fun _ => sf_some (ITP_0 M2))
          | true =>
            refine sf_n (fun _ => ?_) (fun c => absurd (show (1 : Int32) = 0 from c) (by decide))
            have g := xE_g e
            have M3 : MP v (pd_w r.2 198 6 (Int32.ofNat r0 + (1 : Int32))) := MP_6 M2
            have r0n := lt_x h0 hb c123 (by decide)
            have ns := xns_b (k := k) hs e (by omega) (of_decide_eq_true c123)
            have go : ∀ y : Int32, y = (bif Nat.beq (bif decide (s p = 63) then 1 else 0) 1 then 1 else 2) → Sf (d_Mo_isText_7 w F (Int32.ofNat k.length + (1 : Int32)) (pd_w (pd_w r.2 198 6 (Int32.ofNat r0 + (1 : Int32))) 212 (Int32.ofNat k.length).toNatClampNeg y)) (ITP s n v) := by
              intro y hy
              rw [ofN1, cl_nat (by omega)]
              refine next (r0 + 1) ((p, bif decide (s p = 63) then 1 else 0) :: k) _ ns (by omega) (by omega) (MP_w M3 (Or.inr rfl)) (At_w At_1 (by decide)) ⟨?_, ?_⟩
              · rw [pd_w_self]
                exact hy
              · exact BL_e hB (fun j hj => by rw [pd_w_nk (by omega), pd_w_ne (by decide), e212])
            refine sf_n (fun c63 => sf_c i40 (go _ ?_)) (fun c63 => sf_c i40 (go _ ?_))
            · rw [decide_eq_false c63]; rfl
            · rw [decide_eq_true c63]; rfl
    have simpT : s p ≠ 63 → s p ≠ 42 → (k = [] ∨ s p ≠ 125) → Sf ((d_Mo_isSimple w v).bind fun q14 => bif !(decide (q14.1 = 0)) then d_Mo_isText_7 w F (Int32.ofNat k.length) q14.2 else some ((0 : Int32), q14.2)) (ITP s n v) := by
      intro n63 n42 n125
      refine sf_bind (im_t hw hn h0 hD hA hp) (fun r hr => ?_)
      obtain ⟨r1, r2, r3, r4⟩ := hr
      cases e : xst s p with
      | mk b r0 =>
        rw [e] at r1 r2
        have r1 : r.1 = bi b := r1
        rw [r1]
        cases b with
        | false => exact sf_n (fun c => absurd rfl c) (fun _ => sf_some (ITP_0 r3))
        | true =>
          refine sf_n (fun _ => ?_) (fun c => absurd (show (1 : Int32) = 0 from c) (by decide))
          obtain ⟨e0, g1, g2, g3, g4, g5⟩ := xst_c e
          have he := lt_n h0 g2 (by decide)
          refine next r0 k r.2 ?_ (by omega) (by omega) r3 r2 (BL_e hB (fun j _ => by rw [r4]))
          unfold xns
          have c1 : (decide (s p = 125) && !k.isEmpty) = false := by
            rcases n125 with h | h
            · rw [h]; exact Bool.and_false _
            · rw [decide_eq_false h]; rfl
          rw [c1, decide_eq_false n63, decide_eq_false n42, e]
          rfl
    have body : Sf ((d_Mo_see v).bind fun q2 => bif decide (Int32.ofNat k.length ≤ 0) then (bif decide (q2 = (63 : Int32)) then ((d_Mo_isExpression w (0 : Int32) (pd_w v 198 6 ((v 198 6) + (1 : Int32)))).bind fun q5 => bif decide (q5.1 = 0) then d_Mo_isText_126 w q5.2 else bif decide (Int32.ofNat k.length = (4 : Int32)) then d_Mo_isText_126 w q5.2 else (d_Mo_takes (123 : Int32) q5.2).bind fun q8 => bif !(decide (q8.1 = 0)) then bif !(decide (q2 = (63 : Int32))) then bif pm_in (Int32.ofNat k.length) 40 then d_Mo_isText_7 w F (Int32.ofNat k.length + (1 : Int32)) (pd_w q8.2 212 (Int32.ofNat k.length).toNatClampNeg (2 : Int32)) else none else bif pm_in (Int32.ofNat k.length) 40 then d_Mo_isText_7 w F (Int32.ofNat k.length + (1 : Int32)) (pd_w q8.2 212 (Int32.ofNat k.length).toNatClampNeg (1 : Int32)) else none else d_Mo_isText_126 w q8.2) else bif !(decide (q2 = (42 : Int32))) then ((d_Mo_isSimple w v).bind fun q14 => bif !(decide (q14.1 = 0)) then d_Mo_isText_7 w F (Int32.ofNat k.length) q14.2 else some ((0 : Int32), q14.2)) else ((d_Mo_isExpression w (0 : Int32) (pd_w v 198 6 ((v 198 6) + (1 : Int32)))).bind fun q5 => bif decide (q5.1 = 0) then d_Mo_isText_126 w q5.2 else bif decide (Int32.ofNat k.length = (4 : Int32)) then d_Mo_isText_126 w q5.2 else (d_Mo_takes (123 : Int32) q5.2).bind fun q8 => bif !(decide (q8.1 = 0)) then bif !(decide (q2 = (63 : Int32))) then bif pm_in (Int32.ofNat k.length) 40 then d_Mo_isText_7 w F (Int32.ofNat k.length + (1 : Int32)) (pd_w q8.2 212 (Int32.ofNat k.length).toNatClampNeg (2 : Int32)) else none else bif pm_in (Int32.ofNat k.length) 40 then d_Mo_isText_7 w F (Int32.ofNat k.length + (1 : Int32)) (pd_w q8.2 212 (Int32.ofNat k.length).toNatClampNeg (1 : Int32)) else none else d_Mo_isText_126 w q8.2)) else bif !(decide (q2 = (125 : Int32))) then (bif decide (q2 = (63 : Int32)) then ((d_Mo_isExpression w (0 : Int32) (pd_w v 198 6 ((v 198 6) + (1 : Int32)))).bind fun q5 => bif decide (q5.1 = 0) then d_Mo_isText_126 w q5.2 else bif decide (Int32.ofNat k.length = (4 : Int32)) then d_Mo_isText_126 w q5.2 else (d_Mo_takes (123 : Int32) q5.2).bind fun q8 => bif !(decide (q8.1 = 0)) then bif !(decide (q2 = (63 : Int32))) then bif pm_in (Int32.ofNat k.length) 40 then d_Mo_isText_7 w F (Int32.ofNat k.length + (1 : Int32)) (pd_w q8.2 212 (Int32.ofNat k.length).toNatClampNeg (2 : Int32)) else none else bif pm_in (Int32.ofNat k.length) 40 then d_Mo_isText_7 w F (Int32.ofNat k.length + (1 : Int32)) (pd_w q8.2 212 (Int32.ofNat k.length).toNatClampNeg (1 : Int32)) else none else d_Mo_isText_126 w q8.2) else bif !(decide (q2 = (42 : Int32))) then ((d_Mo_isSimple w v).bind fun q14 => bif !(decide (q14.1 = 0)) then d_Mo_isText_7 w F (Int32.ofNat k.length) q14.2 else some ((0 : Int32), q14.2)) else ((d_Mo_isExpression w (0 : Int32) (pd_w v 198 6 ((v 198 6) + (1 : Int32)))).bind fun q5 => bif decide (q5.1 = 0) then d_Mo_isText_126 w q5.2 else bif decide (Int32.ofNat k.length = (4 : Int32)) then d_Mo_isText_126 w q5.2 else (d_Mo_takes (123 : Int32) q5.2).bind fun q8 => bif !(decide (q8.1 = 0)) then bif !(decide (q2 = (63 : Int32))) then bif pm_in (Int32.ofNat k.length) 40 then d_Mo_isText_7 w F (Int32.ofNat k.length + (1 : Int32)) (pd_w q8.2 212 (Int32.ofNat k.length).toNatClampNeg (2 : Int32)) else none else bif pm_in (Int32.ofNat k.length) 40 then d_Mo_isText_7 w F (Int32.ofNat k.length + (1 : Int32)) (pd_w q8.2 212 (Int32.ofNat k.length).toNatClampNeg (1 : Int32)) else none else d_Mo_isText_126 w q8.2)) else (bif pm_in (Int32.ofNat k.length + (-1 : Int32)) 40 then bif !(decide (v 212 (Int32.ofNat k.length + (-1 : Int32)).toNatClampNeg = (1 : Int32))) then d_Mo_isText_7 w F (Int32.ofNat k.length + (-1 : Int32)) (pd_w v 198 6 ((v 198 6) + (1 : Int32))) else (d_Mo_takes (123 : Int32) (pd_w v 198 6 ((v 198 6) + (1 : Int32)))).bind fun q47 => bif decide (q47.1 = 0) then d_Mo_isText_7 w F (Int32.ofNat k.length + (-1 : Int32)) q47.2 else bif pm_in (Int32.ofNat k.length + (-1 : Int32)) 40 then d_Mo_isText_7 w F ((Int32.ofNat k.length + (-1 : Int32)) + (1 : Int32)) (pd_w q47.2 212 (Int32.ofNat k.length + (-1 : Int32)).toNatClampNeg (2 : Int32)) else none else none)) (ITP s n v) := by
      rw [see_t hn h0 hD hA (by omega)]
      show Sf (bif decide (Int32.ofNat k.length ≤ 0) then _ else _) _
      rw [le0 (show k.length ≤ 1000 by omega)]
      refine sf_d (fun ck => ?_) (fun ck => ?_)
      · have hk : k = [] := List.eq_nil_of_length_eq_zero (by omega)
        refine sf_d (fun c63 => headT (Or.inl c63)) (fun c63 => ?_)
        exact sf_n (fun c42 => simpT c63 c42 (Or.inl hk)) (fun c42 => headT (Or.inr c42))
      · refine sf_n (fun c125 => ?_) (fun c125 => ?_)
        · refine sf_d (fun c63 => headT (Or.inl c63)) (fun c63 => ?_)
          exact sf_n (fun c42 => simpT c63 c42 (Or.inr c125)) (fun c42 => headT (Or.inr c42))
        · cases k with
          | nil => exact absurd (Nat.le_refl 0) ck
          | cons y k0 =>
            obtain ⟨a, m⟩ := y
            have k4' : k0.length + 1 ≤ 4 := k4
            have p1 : p + 1 ≤ n := by have := lt_n h0 c125 (by decide); omega
            have j40 : pm_in (Int32.ofNat k0.length) 40 = true := in_nat (by omega) (by omega)
            have hB1 : v 212 k0.length = (bif Nat.beq m 1 then 1 else 2) := hB.1
            have E1 : ∀ j, pd_w v 198 6 (Int32.ofNat p + (1 : Int32)) 212 j = v 212 j := fun j => pd_w_ne (by decide)
            rw [show ((a, m) :: k0).length = k0.length + 1 from rfl, ofNm, ofN1, cl_nat (show k0.length ≤ 1000 by omega), hA', hB1]
            have out : ¬ (m = 1 ∧ s (p + 1) = 123) → ∀ u, MP v u → At (p + 1) u → u 212 = v 212 → Sf (d_Mo_isText_7 w F (Int32.ofNat k0.length) u) (ITP s n v) := by
              intro hm u u1 u2 u3
              refine next (p + 1) k0 u ?_ (by omega) p1 u1 u2 (BL_e hB.2 (fun j _ => by rw [u3]))
              unfold xns
              rw [c125]
              show (bif Nat.beq m 1 && decide (s (p + 1) = 123) then _ else (true, p + 1, k0)) = _
              have e : (Nat.beq m 1 && decide (s (p + 1) = 123)) = false := by
                by_cases c1 : m = 1
                · rw [decide_eq_false (fun q => hm ⟨c1, q⟩), Bool.and_false]
                · have : Nat.beq m 1 = false := by
                    cases q : Nat.beq m 1
                    · rfl
                    · exact absurd (Nat.eq_of_beq_eq_true q) c1
                  rw [this, Bool.false_and]
              rw [e]
              rfl
            refine sf_c j40 ?_
            cases hm : Nat.beq m 1 with
            | false =>
              refine sf_n (fun _ => ?_) (fun c => absurd (show (2 : Int32) = 1 from c) (by decide))
              exact out (fun q => by rw [q.1] at hm; exact absurd hm (by decide)) _ M1 At_1 (pd_wa (by decide))
            | true =>
              have m1 := Nat.eq_of_beq_eq_true hm
              refine sf_n (fun c => absurd rfl c) (fun _ => ?_)
              rw [tk_t hn h0 (DR_P hD M1) At_1 (by omega)]
              refine sf_sb ?_
              cases c123 : decide (s (p + 1) = 123) with
              | false =>
                refine sf_d (fun _ => ?_) (fun c => absurd rfl c)
                exact out (fun q => by rw [decide_eq_true q.2] at c123; exact absurd c123 (by decide)) (pd_w v 198 6 (Int32.ofNat p + (1 : Int32))) M1 At_1 (pd_wa (by decide))
              | true =>
                have p2 := lt_x h0 p1 c123 (by decide)
                refine sf_d (fun c => absurd (show (1 : Int32) = 0 from c) (by decide)) (fun _ => sf_c j40 ?_)
                refine next (p + 2) ((a, 2) :: k0) _ ?_ (by omega) p2 (MP_w (MP_6 M1) (Or.inr rfl)) (At_w At_1 (by decide)) ⟨?_, ?_⟩
                · unfold xns
                  rw [c125, m1, c123]
                  rfl
                · rw [pd_w_self]
                  rfl
                · exact BL_e hB.2 (fun j hj => by
                    rw [pd_w_nk (by omega)]
                    show pd_w (pd_w v 198 6 (Int32.ofNat p + (1 : Int32))) 198 6 (Int32.ofNat (p + 1) + (1 : Int32)) 212 j = v 212 j
                    rw [pd_w_ne (by decide), pd_w_ne (by decide)])
    rw [d_Mo_isText_7]
    have e1 : decide (v 198 6 < v 198 2) = decide (p < n) := by rw [hA', hD.1, lt_nat (by omega) (by omega)]
    rw [e1]
    refine sf_d (fun _ => body) (fun c => ?_)
    refine sf_b (fun c2 => ?_) (fun _ => body)
    rw [le0 (by omega)] at c2
    have c3 := of_decide_eq_true c2
    have hk : k = [] := List.eq_nil_of_length_eq_zero (by omega)
    have hpn : p = n := by omega
    refine sf_some ⟨fun _ => ?_, MP_r⟩
    rw [← hpn, ← hk]
    exact hR
theorem it_t (hw : 4294967296 < w) (hn : n ≤ 160) (h0 : ∀ j, n ≤ j → s j = 0) (hD : DR n s v) : Sf (d_Mo_isText w v) (ITP s n v) := by
  unfold d_Mo_isText
  exact sf_mono (it_m hw hn h0 w 0 [] (pd_w v 198 6 (0 : Int32)) (by omega) (Nat.zero_le _) (DR_P hD (MP_6 MP_r)) pd_w_self ⟨0, rfl⟩ trivial) (fun r hr => ITP_t (MP_6 MP_r) hr)
end TT
