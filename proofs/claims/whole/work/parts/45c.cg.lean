/-! all lanes by themselves, in the class -/
def zyu (Y : Nat → xAS) (l : Nat) (x : xAS) : Nat → xAS := fun i => bif Nat.beq i l then x else Y i
/-- one lane after the other, to where it is held -/
def zph (s : Nat → Int32) (n : Nat) (inp : Nat → Int32) : Nat → Nat → (Nat → xAS) → Bool × Nat × (Nat → xAS)
  | 0, L, Y => (true, L, Y)
  | r + 1, L, Y => bif (zgl s n inp (7 - r) L (Y (7 - r))).1 then zph s n inp r (zgl s n inp (7 - r) L (Y (7 - r))).2.1 (zyu Y (7 - r) (zgl s n inp (7 - r) L (Y (7 - r))).2.2) else (false, (zgl s n inp (7 - r) L (Y (7 - r))).2.1, zyu Y (7 - r) (zgl s n inp (7 - r) L (Y (7 - r))).2.2)
/-- where the class's lanes stand -/
def CAP (s : Nat → Int32) (inp : Nat → Int32) (Y : Nat → xAS) (v : pd_V) : Prop := CIN 187 inp v ∧ ∀ l, l < 8 → (∃ j, xit s j (0, []) = some ((Y l).1, (Y l).2.1) ∧ v 197 l = Int32.ofNat j) ∧ CRL 187 l (Y l).2.2 v
section YCG
variable {s : Nat → Int32} {n m w p p' q j e c o h r N i1 a b l z d L : Nat} {k k' k0 : xK} {inp : Nat → Int32} {D : xLD} {v u t : pd_V} {x y : Int32} {Y : xAS} {YY : Nat → xAS}
theorem leB {a b : Nat} (ha : a ≤ 1000000) (hb : b ≤ 1000000) : decide (Int32.ofNat a ≤ Int32.ofNat b) = decide (a ≤ b) := by
  rw [decide_eq_decide]
  exact Int32.ofNat_le_ofNat (by omega) (by omega)
theorem ltB {a b : Nat} (ha : a ≤ 1000000) (hb : b ≤ 1000000) : decide (Int32.ofNat a < Int32.ofNat b) = decide (a < b) := by
  rw [decide_eq_decide]
  exact Int32.ofNat_lt_ofNat (by omega) (by omega)
theorem zyu_s : zyu YY l Y l = Y := by unfold zyu; rw [Nat.beq_refl]; rfl
theorem zyu_n (h : j ≠ l) : zyu YY l Y j = YY j := by unfold zyu; rw [beq_f h]; rfl
theorem cnt_ls : (zls s n inp l Y).2.2.2.2.2.1 ≤ Y.2.2.2.2.2.1 + 1 := by
  obtain ⟨p, k, D⟩ := Y
  unfold zls
  show (bif decide (s p = 63) || decide (s p = 42) then _ else _ : xAS).2.2.2.2.2.1 ≤ D.2.2.2.1 + 1
  cases (decide (s p = 63) || decide (s p = 42)) with
  | true =>
    show (bif decide ((zdc s n inp l p (p + 1) D).1 = 0) then _ else _ : xAS).2.2.2.2.2.1 ≤ D.2.2.2.1 + 1
    cases decide ((zdc s n inp l p (p + 1) D).1 = 0) with
    | true =>
      show (bif decide (s p = 63) && decide (s (zb1 s (xE s (p + 1)).2) = 123) then _ else _ : xAS).2.2.2.2.2.1 ≤ D.2.2.2.1 + 1
      cases (decide (s p = 63) && decide (s (zb1 s (xE s (p + 1)).2) = 123)) with
      | true =>
        show (zdc s n inp l p (p + 1) D).2.2.2.2.1 ≤ D.2.2.2.1 + 1
        rw [cnt_d]
        omega
      | false =>
        show (zdc s n inp l p (p + 1) D).2.2.2.2.1 ≤ D.2.2.2.1 + 1
        rw [cnt_d]
        omega
    | false =>
      show (zdc s n inp l p (p + 1) D).2.2.2.2.1 ≤ D.2.2.2.1 + 1
      rw [cnt_d]
      omega
  | false =>
    show (zac s n inp l p D).2.2.2.1 ≤ D.2.2.2.1 + 1
    exact cnt_a
/-- fuel and numbers put -/
theorem zgl_c : ∀ (L : Nat) (Y : xAS), (zgl s n inp l L Y).2.1 ≤ L ∧ (zgl s n inp l L Y).2.2.2.2.2.2.2.1 + (zgl s n inp l L Y).2.1 ≤ Y.2.2.2.2.2.1 + L := by
  intro L
  induction L with
  | zero => intro Y; exact ⟨Nat.le_refl _, Nat.le_refl _⟩
  | succ L ih =>
    intro Y
    cases hh : zhl s n Y with
    | true =>
      rw [zgl_h hh]
      exact ⟨Nat.le_refl _, Nat.le_refl _⟩
    | false =>
      rw [zgl_s hh]
      have h1 := ih (zln s n inp l Y)
      have h2 : (zln s n inp l Y).2.2.2.2.2.1 ≤ Y.2.2.2.2.2.1 + 1 := cnt_ls
      exact ⟨by omega, by omega⟩
theorem zgl_T : ∀ (L : Nat) (Y : xAS), (zgl s n inp l L Y).1 = true → zhl s n (zgl s n inp l L Y).2.2 = true := by
  intro L
  induction L with
  | zero => intro Y h; exact h
  | succ L ih =>
    intro Y h
    cases hh : zhl s n Y with
    | true =>
      rw [zgl_h hh]
      exact hh
    | false =>
      rw [zgl_s hh] at h ⊢
      exact ih _ h
theorem zgl_R (hn : n ≤ 160) (h0 : ∀ j, n ≤ j → s j = 0) (hW : xR s n []) : ∀ (L : Nat) (Y : xAS), xR s Y.1 Y.2.1 → s Y.1 ≠ 125 → xR s (zgl s n inp l L Y).2.2.1 (zgl s n inp l L Y).2.2.2.1 ∧ s (zgl s n inp l L Y).2.2.1 ≠ 125 := by
  intro L
  induction L with
  | zero => intro Y h1 h2; exact ⟨h1, h2⟩
  | succ L ih =>
    intro Y h1 h2
    cases hh : zhl s n Y with
    | true =>
      rw [zgl_h hh]
      exact ⟨h1, h2⟩
    | false =>
      rw [zgl_s hh]
      obtain ⟨p, k, D⟩ := Y
      obtain ⟨-, hp, -⟩ := zhl_f hh
      have := zln_R (inp := inp) (l := l) (D := D) hn h0 hW h1 hp
      exact ih _ this.1 this.2
theorem CRL_e (h : CRL c l D v) (e : ∀ d, (c + 2 ≤ d ∧ d ≤ c + 6) → u d = v d) (e0 : u c = v c) : CRL c l D u := by
  obtain ⟨m1, m2, m3, m4, m5, m6⟩ := h
  exact ⟨fun j hj => by rw [e (c + 2) (by omega)]; exact m1 j hj, fun j hj => by rw [e (c + 3) (by omega)]; exact m2 j hj, fun j hj hc => by rw [e (c + 4) (by omega)]; exact m3 j hj hc, by rw [e (c + 5) (by omega)]; exact m4, by rw [e (c + 6) (by omega)]; exact m5, by rw [e0]; exact m6⟩
/-- a lane of the class goes on -/
theorem ygo_m (hw : 4294967296 < w) (hn : n ≤ 160) (h0 : ∀ j, n ≤ j → s j = 0) (ha : ker a) (hN : N ≤ 80) (hi1 : i1 ≤ 160) (hx : xit s N (0, []) = some (n, [])) (hl : l < 8) : ∀ (L : Nat) (Y : xAS) (v : pd_V) (F : Nat), KNL s n N i1 a v → CIN 187 inp v → (∃ j, xit s j (0, []) = some (Y.1, Y.2.1) ∧ v 197 l = Int32.ofNat j) → CRL 187 l Y.2.2 v → s Y.1 ≠ 125 → v 186 3 = Int32.ofNat L → L ≤ 4000 → Y.2.2.2.2.2.1 + L ≤ 4000 → Pf (d_Ap_goesOn_0 w F a (Int32.ofNat l) v) (fun r => r.1 = bi (zgl s n inp l L Y).1 ∧ r.2 186 3 = Int32.ofNat (zgl s n inp l L Y).2.1 ∧ (∃ j, xit s j (0, []) = some ((zgl s n inp l L Y).2.2.1, (zgl s n inp l L Y).2.2.2.1) ∧ r.2 197 l = Int32.ofNat j) ∧ CRL 187 l (zgl s n inp l L Y).2.2.2.2 r.2 ∧ OTH 187 l v r.2 ∧ CIN 187 inp r.2 ∧ (∀ x, x ≠ l → r.2 197 x = v 197 x) ∧ (∀ i, i ≠ 3 → r.2 186 i = v 186 i) ∧ (∀ d, d < 186 → r.2 d = v d)) := by
  have pa : a = 3 ∨ a = 88 := ha
  intro L
  induction L with
  | zero =>
    intro Y v F hK hin hj hD h125 h3 hL hc
    obtain ⟨j, hj, h7⟩ := hj
    obtain ⟨p, k, D⟩ := Y
    cases F with
    | zero => rw [d_Ap_goesOn_0]; exact pf_none
    | succ F =>
      rw [d_Ap_goesOn_0, h3, show decide (Int32.ofNat 0 ≤ (0 : Int32)) = true from by decide]
      refine pf_t (pf_bind (yih_t hn h0 hN hx hK hl hj h7 hD) (fun q2 h2 => pf_some ?_))
      exact ⟨h2, h3, ⟨j, hj, h7⟩, hD, fun _ _ _ _ h => h, hin, fun _ _ => rfl, fun _ _ => rfl, fun _ _ => rfl⟩
  | succ L ih =>
    intro Y v F hK hin hj hD h125 h3 hL hc
    obtain ⟨j, hj, h7⟩ := hj
    obtain ⟨p, k, D⟩ := Y
    cases F with
    | zero => rw [d_Ap_goesOn_0]; exact pf_none
    | succ F =>
      rw [d_Ap_goesOn_0, h3, show decide (Int32.ofNat (L + 1) ≤ (0 : Int32)) = false from by rw [show (0 : Int32) = Int32.ofNat 0 from rfl, leB (by omega) (by omega)]; exact decide_eq_false (by omega)]
      refine pf_f (pf_bind (yih_t hn h0 hN hx hK hl hj h7 hD) (fun q2 h2 => ?_))
      rw [h2]
      cases hh : zhl s n (p, k, D) with
      | true =>
        rw [zgl_h hh]
        exact pf_d (fun z => absurd z (by decide)) (fun _ => pf_some ⟨rfl, h3, ⟨j, hj, h7⟩, hD, fun _ _ _ _ h => h, hin, fun _ _ => rfl, fun _ _ => rfl, fun _ _ => rfl⟩)
      | false =>
        rw [zgl_s hh]
        refine pf_d (fun _ => ?_) (fun z => absurd rfl z)
        have hc0 : D.2.2.2.1 + (L + 1) ≤ 4000 := hc
        refine pf_bind (pf_and (pf_sf (t_Ap_afterStep (v := v) (l2 := Int32.ofNat l) hw ha)) (yas_t hw hn h0 ha hN hi1 hx hK hl hj h7 hin hD (by omega) hh h125)) (fun q5 h5 => ?_)
        obtain ⟨f5, ⟨j5, e5, x5⟩, A1, A2, A3⟩ := h5
        have fr : ∀ d, (d < 187 ∨ 197 ≤ d) → q5.2 d = v d := fun d hd => f5.1 d (by omega)
        have K5 : KNL s n N i1 a q5.2 := KNL_q ha hN hK (fun d hd => fr d (by omega))
        rw [e5]
        refine pf_bind (ybb_t hn h0 hN hx K5 x5) (fun q6 h6 => ?_)
        obtain ⟨j6, e6, x6⟩ := h6
        rw [e6, zand7 (show l ≤ 7 by omega), cl_nat (show l ≤ 1000 by omega)]
        refine pf_c (fun _ => ?_)
        have e3 : q5.2 186 3 - (1 : Int32) = Int32.ofNat L := by rw [fr 186 (by omega), h3, dec_ofNat]
        rw [e3]
        have hpn : p < n := (zhl_f hh).2.1
        have z2 := zln_R (inp := inp) (l := l) (D := D) hn h0 ⟨N, hx⟩ ⟨j, hj⟩ hpn
        refine pf_mono (ih (zln s n inp l (p, k, D)) (pd_w (pd_w q5.2 197 l (Int32.ofNat j6)) 186 3 (Int32.ofNat L)) F (KNL_q ha hN K5 (fun d hd => by rw [pd_wa (by omega), pd_wa (by omega)])) ?_ ⟨j6, x6, ?_⟩ ?_ z2.2 pd_w_self (by omega) ?_) (fun r hr => ?_)
        · intro i hi
          rw [pd_w_ne (by decide), pd_w_ne (by decide), A3 188 (Or.inl rfl)]
          exact hin i hi
        · rw [pd_w_ne (by decide), pd_w_self]
        · exact CRL_e A1 (fun d hd => by rw [pd_wa (by omega), pd_wa (by omega)]) (by rw [pd_wa (by decide), pd_wa (by decide)])
        · have h2 : (zln s n inp l (p, k, D)).2.2.2.2.2.1 ≤ D.2.2.2.1 + 1 := cnt_ls
          omega
        · obtain ⟨r1, r2, r3, r4, r5, r6, r7, r8, r9⟩ := hr
          refine ⟨r1, r2, r3, r4, fun l' D' hl' hne hm => r5 l' D' hl' hne (CRL_e (A2 l' D' hl' hne hm) (fun d hd => by rw [pd_wa (by omega), pd_wa (by omega)]) (by rw [pd_wa (by decide), pd_wa (by decide)])), r6, fun x hx' => ?_, fun i hi => ?_, fun d hd => ?_⟩
          · rw [r7 x hx', pd_w_ne (by decide), pd_w_nk hx', fr 197 (by omega)]
          · rw [r8 i hi, pd_w_nk hi, pd_w_ne (by decide), fr 186 (by omega)]
          · rw [r9 d hd, pd_wa (by omega), pd_wa (by omega), fr d (by omega)]
end YCG
