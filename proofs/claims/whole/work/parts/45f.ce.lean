/-! the class's run of each lane alone -/
def zY0 (m : Nat) : Nat → xAS := fun l => (0, [], (zX0 m).2.2.2.2.2 l)
def ZEND (o : Option (Nat → xAS)) (q : pd_V) : Prop := (∃ Y', o = some Y' ∧ q 186 1 = 1 ∧ ∀ l, l < 8 → CRL 187 l (Y' l).2.2 q) ∨ (o = none ∧ q 186 1 = 0)
section YCE
variable {s : Nat → Int32} {n m w p p' q j e c o h r N i1 a b l z d L R : Nat} {k k' k0 : xK} {inp : Nat → Int32} {D : xLD} {v u t : pd_V} {x y M : Int32} {Y YY : Nat → xAS} {f g : Nat → Bool} {DD : Nat → xLD}
theorem subN {a b : Nat} (ha : a ≤ 1000000) (h : b ≤ a) : Int32.ofNat a - Int32.ofNat b = Int32.ofNat (a - b) := by
  apply Int32.toInt.inj
  rw [sI_sub (by rw [Int32.toInt_ofNat_of_lt (by omega), Int32.toInt_ofNat_of_lt (by omega)]; omega), Int32.toInt_ofNat_of_lt (by omega), Int32.toInt_ofNat_of_lt (by omega), Int32.toInt_ofNat_of_lt (by omega)]
  omega
theorem le0s {a b : Nat} (ha : a ≤ 1000000) (hb : b ≤ 1000000) : decide ((0 : Int32) ≤ Int32.ofNat a - Int32.ofNat b) = decide (b ≤ a) := by
  rw [decide_eq_decide, Int32.le_iff_toInt_le, sI_sub (by rw [Int32.toInt_ofNat_of_lt (by omega), Int32.toInt_ofNat_of_lt (by omega)]; omega), Int32.toInt_ofNat_of_lt (by omega), Int32.toInt_ofNat_of_lt (by omega), sI_0]
  omega
theorem cnt_x {iv iw : Nat} : (zexc s n inp p iv iw f DD l).2.2.2.1 ≤ (DD l).2.2.2.1 := by
  unfold zexc
  refine Nat.le_trans (cnt_u (d := 0) (fun D => Nat.le_refl _)) ?_
  exact cnt_u (d := 0) (fun D => by rw [cnt_d]; exact Nat.le_refl _)
theorem zok_e (hn : n ≤ 160) (h0 : ∀ j, n ≤ j → s j = 0) (hW : xR s n []) (h : zok s L Y) (hL : c ≤ L) (hh : ∀ l, l < 8 → zhl s n (Y l) = true) : zok s (L - c) (zae s n inp Y) := by
  intro l hl
  obtain ⟨a1, a2, a3⟩ := h l hl
  unfold zae
  cases hf : zax n Y l with
  | true =>
    obtain ⟨-, x2, -⟩ := zax_x hh hl hf
    rcases xR_n h0 hW a1 with ⟨e, -⟩ | ⟨p', k', hs⟩
    · omega
    · have z := zbw_t hn h0 hW 200 p' k' (xR_s a1 hs) (by omega)
      rw [hs]
      refine ⟨z.1, z.2, ?_⟩
      have hx := cnt_x (s := s) (n := n) (inp := inp) (p := (Y (zlx (zax n Y) 8)).1) (iv := (s ((Y (zlx (zax n Y) 8)).1 + 1) - 97).toNatClampNeg) (iw := (s ((Y (zlx (zax n Y) 8)).1 + 2) - 97).toNatClampNeg) (f := zax n Y) (DD := fun l => (Y l).2.2) (l := l)
      show (zexc s n inp (Y (zlx (zax n Y) 8)).1 (s ((Y (zlx (zax n Y) 8)).1 + 1) - 97).toNatClampNeg (s ((Y (zlx (zax n Y) 8)).1 + 2) - 97).toNatClampNeg (zax n Y) (fun l => (Y l).2.2) l).2.2.2.1 + (L - c) ≤ 4000
      omega
  | false =>
    refine ⟨a1, a2, ?_⟩
    have hx := cnt_x (s := s) (n := n) (inp := inp) (p := (Y (zlx (zax n Y) 8)).1) (iv := (s ((Y (zlx (zax n Y) 8)).1 + 1) - 97).toNatClampNeg) (iw := (s ((Y (zlx (zax n Y) 8)).1 + 2) - 97).toNatClampNeg) (f := zax n Y) (DD := fun l => (Y l).2.2) (l := l)
    show (zexc s n inp (Y (zlx (zax n Y) 8)).1 (s ((Y (zlx (zax n Y) 8)).1 + 1) - 97).toNatClampNeg (s ((Y (zlx (zax n Y) 8)).1 + 2) - 97).toNatClampNeg (zax n Y) (fun l => (Y l).2.2) l).2.2.2.1 + (L - c) ≤ 4000
    omega
theorem zrd_s : zrd s n inp (R + 1) L Y = (bif (zph s n inp 8 L Y).1 then (bif znone (zax n (zph s n inp 8 L Y).2.2) then some (zph s n inp 8 L Y).2.2 else bif Nat.ble (znc (zax n (zph s n inp 8 L Y).2.2)) (zph s n inp 8 L Y).2.1 then zrd s n inp R ((zph s n inp 8 L Y).2.1 - znc (zax n (zph s n inp 8 L Y).2.2)) (zae s n inp (zph s n inp 8 L Y).2.2) else none) else none) := rfl
theorem yth_m (hw : 4294967296 < w) (hn : n ≤ 160) (h0 : ∀ j, n ≤ j → s j = 0) (ha : ker a) (hN : N ≤ 80) (hi1 : i1 ≤ 160) (hx : xit s N (0, []) = some (n, [])) : ∀ (R i L : Nat) (Y : Nat → xAS) (v : pd_V) (F : Nat), i + R = 4001 → L + i ≤ 4000 ∨ R = 0 → zok s L Y → KNL s n N i1 a v → CAP s inp Y v → v 186 3 = Int32.ofNat L → v 186 1 = 0 → Pf (d_Ap_goThrough_2 w F a (Int32.ofNat i) v) (ZEND (zrd s n inp R L Y)) := by
  have hW : xR s n [] := ⟨N, hx⟩
  intro R
  induction R with
  | zero =>
    intro i L Y v F hi _ _ _ _ _ h1
    cases F with
    | zero => rw [d_Ap_goThrough_2]; exact pf_none
    | succ F =>
      rw [d_Ap_goThrough_2, show decide ((4000 : Int32) < Int32.ofNat i) = true from by rw [show (4000 : Int32) = Int32.ofNat 4000 from rfl, ltB (by omega) (by omega)]; exact decide_eq_true (by omega)]
      exact pf_t (pf_some (Or.inr ⟨rfl, h1⟩))
  | succ R ih =>
    intro i L Y v F hi hLi hok hK hC h3 h1
    have hLi : L + i ≤ 4000 := by
      rcases hLi with h | h
      · exact h
      · omega
    cases F with
    | zero => rw [d_Ap_goThrough_2]; exact pf_none
    | succ F =>
      rw [d_Ap_goThrough_2, show decide ((4000 : Int32) < Int32.ofNat i) = false from by rw [show (4000 : Int32) = Int32.ofNat 4000 from rfl, ltB (by omega) (by omega)]; exact decide_eq_false (by omega)]
      refine pf_f ?_
      rw [zrd_s]
      obtain ⟨kk1, kk2⟩ := zph_k (inp := inp) hn h0 hW 8 L Y (by omega) hok
      refine ycp_m hw hn h0 ha hN hi1 hx 8 L Y v w (by omega) (by omega) hok hK hC h3 (fun hT u u1 u2 u3 u4 u5 => ?_) (fun hF u u1 u2 => ?_)
      · have hh := zph_T (s := s) (n := n) (inp := inp) 8 L Y (by omega) hT
        have hh : ∀ l, l < 8 → zhl s n ((zph s n inp 8 L Y).2.2 l) = true := fun l hl => hh l (by omega) hl
        rw [hT]
        generalize (zph s n inp 8 L Y).2.2 = P at *
        generalize (zph s n inp 8 L Y).2.1 = L1 at *
        show Pf _ (ZEND (bif znone (zax n P) then some P else bif Nat.ble (znc (zax n P)) L1 then zrd s n inp R (L1 - znc (zax n P)) (zae s n inp P) else none))
        unfold d_Ap_lanesAtX
        refine pf_bind (ylx_m h0 hn hN hx u1 u2 w 0 0 (by omega) mk_0) (fun q2 h2 => ?_)
        have c8 := znc_8 (f := zax n P)
        refine pf_n (fun hz => ?_) (fun hz => pf_some (Or.inl ⟨P, ?_, pd_w_self, fun l hl => CRL_e (u2.2 l hl).2 (fun d hd => by rw [pd_wa (by omega)]) (by rw [pd_wa (by decide)])⟩))
        · have hz' : znone (zax n P) = false := by rw [← MK8_z h2]; exact decide_eq_false hz
          have c1 := znc_1 hz'
          rw [bc_m h2, zpc_n, u3, le0s (by omega) (by omega), hz']
          refine pf_d (fun hc => ?_) (fun hc => pf_some (Or.inr ⟨?_, ?_⟩))
          · rw [ble_t hc, subN (by omega) hc, ofN1 i]
            show Pf _ (ZEND (zrd s n inp R (L1 - znc (zax n P)) (zae s n inp P)))
            unfold d_Ap_exchange
            refine pf_bind (yxc_m (Y := P) (inp := inp) hw hn h0 ha hN hi1 hx h2 hz' hh w 0 0 (pd_w u 186 3 (Int32.ofNat (L1 - znc (zax n P)))) (by omega) (KNL_q ha hN u1 (fun d hd => by rw [pd_wa (by omega)])) (fun j hj => by rw [pd_w_ne (by decide)]; exact u2.1 j hj) (fun x hx' => CRL_e (u2.2 x hx').2 (fun d hd => by rw [pd_wa (by omega)]) (by rw [pd_wa (by decide)])) (fun x hx' => ?_) (Or.inr (fun i hi => absurd hi (Nat.not_lt_zero _)))) (fun q6 h6 => ?_)
            · obtain ⟨⟨j, y1, y2⟩, -⟩ := u2.2 x hx'
              refine ⟨j, by rw [pd_w_ne (by decide)]; exact y2, ?_⟩
              rw [blt_f (Nat.not_lt_zero x), Bool.false_and]
              exact y1
            · obtain ⟨w1, w2, w3⟩ := h6
              refine ih (i + 1) (L1 - znc (zax n P)) (zae s n inp P) q6 F (by omega) (Or.inl (by omega)) (zok_e hn h0 hW kk1 hc hh) (KNL_q ha hN u1 (fun d hd => by rw [w3 d (by omega), pd_wa (by omega)])) w1 (by rw [w2, pd_w_self]) (by rw [w2, pd_w_nk (by decide), u4, h1])
          · rw [ble_f hc]
            rfl
          · rw [pd_w_nk (by decide), u4, h1]
        · have hz' : znone (zax n P) = true := by rw [← MK8_z h2]; exact decide_eq_true hz
          rw [hz']
          rfl
      · rw [hF]
        exact Or.inr ⟨rfl, u1.trans h1⟩
theorem s0_n (h0 : ∀ j, n ≤ j → s j = 0) (hW : xR s n []) : s 0 ≠ 125 := fun c => by
  obtain ⟨-, h, m, k0, e⟩ := brk h0 hW ⟨0, rfl⟩ c
  exact nomatch e
theorem zok_0 (h0 : ∀ j, n ≤ j → s j = 0) (hW : xR s n []) (hL : L ≤ 4000) : zok s L (zY0 m) := fun l hl => ⟨⟨0, rfl⟩, s0_n h0 hW, by show 0 + L ≤ 4000; omega⟩
/-- the class's run alone, from its beginning -/
theorem yal_c (hw : 4294967296 < w) (hn : n ≤ 160) (h0 : ∀ j, n ≤ j → s j = 0) (ha : ker a) (hN : N ≤ 80) (hi1 : i1 ≤ 160) (hx : xit s N (0, []) = some (n, [])) (hm : 1 ≤ m ∧ m ≤ 8) (hK : KNL s n N i1 a v) (hL : L ≤ 4000) (ha0 : kerOf (v 0 1) = a) : Pf ((d_Ap_begin w 172 16 (Int32.ofNat m) (Int32.ofNat L) v).bind fun q3 => d_Ap_goThrough w (kerOf (q3 0 1)) q3) (fun q => ZEND (zrd s n (fun j => v 172 j) 4001 L (zY0 m)) q) := by
  have pa : a = 3 ∨ a = 88 := ha
  have hW : xR s n [] := ⟨N, hx⟩
  unfold d_Ap_begin
  have bg : Pf ((d_Cr_gather w 187 172 16 (Int32.ofNat m) v).bind fun q1 => (d_Arr_fill w 197 8 (0 : Int32) q1).bind fun q2 => some (pd_w (pd_w q2 186 3 (Int32.ofNat L)) 186 1 (0 : Int32))) (fun q => CAP s (fun j => v 172 j) (zY0 m) q ∧ q 186 3 = Int32.ofNat L ∧ q 186 1 = 0 ∧ (∀ d, d < 186 → q d = v d)) := by
    refine pf_bind (zga_t crw_187 hm) (fun q1 h1 => ?_)
    obtain ⟨c1, c2⟩ := h1
    refine pf_bind (zfl_t (n := 8) (by omega)) (fun q2 h2 => pf_some ?_)
    obtain ⟨f1, f2⟩ := h2
    have fr : ∀ d, d ≠ 186 → d ≠ 197 → pd_w (pd_w q2 186 3 (Int32.ofNat L)) 186 1 (0 : Int32) d = q1 d := fun d d1 d2 => by rw [pd_wa d1, pd_wa d1, f1 d d2]
    refine ⟨⟨fun j hj => by rw [fr 188 (by decide) (by decide)]; exact c1.1 j hj, fun l hl => ⟨⟨0, rfl, ?_⟩, CRL_e (c1.2 l hl) (fun d hd => fr d (by omega) (by omega)) (fr 187 (by decide) (by decide))⟩⟩, ?_, pd_w_self, fun d hd => ?_⟩
    · rw [pd_w_ne (by decide), pd_w_ne (by decide), f2 l hl]
      rfl
    · rw [pd_w_nk (by decide), pd_w_self]
    · rw [fr d (by omega) (by omega), c2 d (by omega)]
  refine pf_bind bg (fun q3 h3 => ?_)
  obtain ⟨c1, c2, c3, c4⟩ := h3
  have K3 := KNL_q ha hN hK (fun d hd => c4 d (by omega))
  rw [show kerOf (q3 0 1) = a by rw [c4 0 (by omega)]; exact ha0]
  unfold d_Ap_goThrough
  exact yth_m hw hn h0 ha hN hi1 hx 4001 0 L (zY0 m) q3 w (by omega) (Or.inl (by omega)) (zok_0 h0 hW hL) K3 c1 c2 c3
end YCE
