/-! the reference's run of each lane alone -/
def MEND (o : Option (Nat → xAS)) (r : Int32 × pd_V) : Prop := (∃ Y', o = some Y' ∧ r.1 = 1 ∧ r.2 198 27 = 1 ∧ ∀ l, l < 8 → MRL (8 + l) (zst (Y' l).2.2) r.2) ∨ (o = none ∧ r.1 = 0 ∧ r.2 198 27 = 0)
section YMZ
variable {s : Nat → Int32} {n m w p p' q r c N i j l h L L1 R : Nat} {W : Int32} {k k' k0 k1 k2 : xK} {inp : Nat → Int32} {D D' : xLD} {Y P : Nat → xAS} {v u t : pd_V} {x y M : Int32}
theorem FA_H (h : FH v u) : FA v u := ⟨h.1, fun k a b c _ => h.2.1 k a b c, h.2.2⟩
theorem FA_t (h1 : FA v u) (h2 : FA u t) : FA v t := ⟨fun a b => (h2.1 a b).trans (h1.1 a b), fun k b c d e => (h2.2.1 k b c d e).trans (h1.2.1 k b c d e), OTG_t h1.2.2 h2.2.2⟩
theorem FA_27 : FA v (pd_w v 198 27 x) := ⟨fun a b => pd_wa (by omega), fun k _ _ _ e => pd_w_nk e, OTG_q (fun d hd => pd_wa (by omega))⟩
/-- what a round says -/
def RQ (s : Nat → Int32) (n : Nat) (inp : Nat → Int32) (W : Int32) (R : Nat) (o : Option (Nat → xAS)) (v : pd_V) (r : Int32 × pd_V) : Prop := FH v r.2 ∧ ((r.1 = 0 ∧ o = none) ∨ (r.1 = 2 ∧ ∃ P, o = some P ∧ ∀ l, l < 8 → MRL (8 + l) (zst (P l).2.2) r.2) ∨ (r.1 = 1 ∧ ∃ P L2, o = zrd s n inp R L2 P ∧ L2 < R ∧ L2 ≤ 4000 ∧ zok s L2 P ∧ UNI s n W P ∧ (∀ l, l < 8 → LRM s n l (P l) r.2) ∧ r.2 198 28 = Int32.ofNat L2))
theorem yrnd_t (hw : 4294967296 < w) (hn : n ≤ 160) (h0 : ∀ j, n ≤ j → s j = 0) (hW : xR s n []) (hF : FXP s W) (hL : L < R + 1) (hL4 : L ≤ 4000) (hok : zok s L Y) (hU : UNI s n W Y) (hT : TX n s v) (hin : MIN inp v) (hM : ∀ l, l < 8 → LRM s n l (Y l) v) (h28 : v 198 28 = Int32.ofNat L) : Pf (d_Mo_round w v) (RQ s n inp W R (zrd s n inp (R + 1) L Y) v) := by
  unfold d_Mo_round
  rw [zrd_s]
  obtain ⟨kk1, kk2⟩ := zph_k (inp := inp) hn h0 hW 8 L Y (by omega) hok
  refine yr6_m hw hn h0 hW 8 L Y v w (by omega) hL4 hok hT hin (fun l hl => absurd hl (Nat.not_lt_zero _)) (fun l _ hl => hM l hl) h28 (fun hP u u1 u2 u3 u4 u5 => ?_) (fun hP u u1 => ?_)
  · have hh := zph_T (s := s) (n := n) (inp := inp) 8 L Y (by omega) hP
    have hh : ∀ l, l < 8 → zhl s n ((zph s n inp 8 L Y).2.2 l) = true := fun l hl => hh l (by omega) hl
    have un := UNI_1 (inp := inp) hn h0 hW hF hok hU hP
    rw [hP]
    generalize (zph s n inp 8 L Y).2.2 = P at *
    generalize (zph s n inp 8 L Y).2.1 = L1 at *
    show Pf _ (RQ s n inp W R (bif znone (zax n P) then some P else bif Nat.ble (znc (zax n P)) L1 then zrd s n inp R (L1 - znc (zax n P)) (zae s n inp P) else none) v)
    have hax : ∃ px e, ∀ l, l < 8 → zax n P l = true → (P l).1 = px ∧ xR s px (P l).2.1 ∧ xns s px (P l).2.1 = (true, e + 1, (P l).2.1) ∧ HX s px e := by
      obtain ⟨px, kx, E, un⟩ := id un
      have one : ∀ l, l < 8 → zax n P l = true → ∃ e, (P l).1 = px ∧ xR s px (P l).2.1 ∧ xns s px (P l).2.1 = (true, e + 1, (P l).2.1) ∧ HX s px e := by
        intro l hl hf
        obtain ⟨a1, -⟩ := un l hl hf
        obtain ⟨x1, x2, x3⟩ := zax_x hh hl hf
        have hR := (kk1 l hl).1
        rw [a1] at hR x2 x3
        obtain ⟨p', k', ns⟩ : ∃ p' k', xns s px (P l).2.1 = (true, p', k') := by
          rcases xR_n h0 hW hR with ⟨e, -⟩ | e
          · omega
          · exact e
        obtain ⟨e, hX, e1, e2⟩ := HX_t ns x3
        rw [e1, e2] at ns
        exact ⟨e, a1, hR, ns, hX⟩
      by_cases hc : ∃ l, l < 8 ∧ zax n P l = true
      · obtain ⟨l0, hl0, hf0⟩ := hc
        obtain ⟨e, -, -, -, b4⟩ := one l0 hl0 hf0
        refine ⟨px, e, fun l hl hf => ?_⟩
        obtain ⟨e', a1, a2, a3, a4⟩ := one l hl hf
        have ee := HX_u b4 a4
        subst ee
        exact ⟨a1, a2, a3, a4⟩
      · exact ⟨px, 0, fun l hl hf => absurd ⟨l, hl, hf⟩ hc⟩
    obtain ⟨px, e, hax⟩ := hax
    have m49 := yr49_m (w := w) (inp := inp) hw hn h0 (show L1 ≤ 4000 by omega) hax w 0 0 (-1) u (by omega) u1 u2 (fun j hj => by
      unfold LX
      rw [blt_f (Nat.not_lt_zero j), Bool.false_and]
      exact u3 j hj) mk_0 u4 (Nat.zero_le _) (Or.inr ⟨fun i hi => absurd hi (Nat.not_lt_zero _), rfl⟩)
    refine pf_mono m49 (fun r hr => ?_)
    obtain ⟨r1, r2⟩ := hr
    refine ⟨FH_t u5 r1, ?_⟩
    rcases r2 with ⟨a1, a2⟩ | ⟨a1, a2, a3⟩ | ⟨a1, a2, a3, a4, a5⟩
    · have hz : znone (zax n P) = false := by
        cases hz : znone (zax n P) with
        | false => rfl
        | true =>
          exfalso
          have f0 := znone_f hz
          have : znc (zax n P) = 0 := by
            unfold znc
            rw [f0 0 (by omega), f0 1 (by omega), f0 2 (by omega), f0 3 (by omega), f0 4 (by omega), f0 5 (by omega), f0 6 (by omega), f0 7 (by omega)]
            rfl
          omega
      rw [hz, ble_f (show ¬ znc (zax n P) ≤ L1 by omega)]
      exact Or.inl ⟨a1, rfl⟩
    · rw [a2]
      exact Or.inr (Or.inl ⟨a1, P, rfl, a3⟩)
    · rw [a2, ble_t a3]
      have c1 := znc_1 a2
      exact Or.inr (Or.inr ⟨a1, zae s n inp P, L1 - znc (zax n P), rfl, by omega, by omega, zok_e hn h0 hW kk1 a3 hh, UNI_2 h0 hW hF hh kk1 un a2, a5, a4⟩)
  · rw [hP]
    exact ⟨u1, Or.inl ⟨rfl, rfl⟩⟩
theorem ya90_m (hw : 4294967296 < w) (hn : n ≤ 160) (h0 : ∀ j, n ≤ j → s j = 0) (hW : xR s n []) (hF : FXP s W) : ∀ (R L : Nat) (Y : Nat → xAS) (v : pd_V) (F : Nat), L < R → L ≤ 4000 → zok s L Y → UNI s n W Y → TX n s v → MIN inp v → (∀ l, l < 8 → LRM s n l (Y l) v) → v 198 28 = Int32.ofNat L → Pf (d_Mo_alone_90 w F (1 : Int32) v) (fun r => FA v r.2 ∧ MEND (zrd s n inp R L Y) r) := by
  intro R
  induction R with
  | zero => intro L Y v F hL; exact absurd hL (Nat.not_lt_zero _)
  | succ R ih =>
    intro L Y v F hL hL4 hok hU hT hin hM h28
    cases F with
    | zero => rw [d_Mo_alone_90]; exact pf_none
    | succ F =>
      rw [d_Mo_alone_90]
      refine pf_n (fun z => absurd rfl z) (fun _ => ?_)
      refine pf_bind (yrnd_t hw hn h0 hW hF hL hL4 hok hU hT hin hM h28) (fun q5 h5 => ?_)
      obtain ⟨f5, h5⟩ := h5
      rcases h5 with ⟨a1, a2⟩ | ⟨a1, P, a2, a3⟩ | ⟨a1, P, L2, a2, a3, a4, a5, a6, a7, a8⟩
      · rw [a1, a2]
        cases F with
        | zero => rw [d_Mo_alone_90]; exact pf_none
        | succ F =>
          rw [d_Mo_alone_90]
          exact pf_n (fun _ => pf_n (fun _ => pf_d (fun _ => pf_some ⟨FA_t (FA_H f5) FA_27, Or.inr ⟨rfl, rfl, by dsimp only; rw [pd_w_self]⟩⟩) (fun z => absurd rfl z)) (fun z => absurd z (by decide))) (fun z => absurd z (by decide))
      · rw [a1, a2]
        cases F with
        | zero => rw [d_Mo_alone_90]; exact pf_none
        | succ F =>
          rw [d_Mo_alone_90]
          exact pf_n (fun _ => pf_n (fun z => absurd rfl z) (fun _ => pf_d (fun z => absurd z (by decide)) (fun _ => pf_some ⟨FA_t (FA_H f5) FA_27, Or.inl ⟨P, rfl, rfl, by dsimp only; rw [pd_w_self], fun l hl => MRL_q (a3 l hl) (fun d hd => by dsimp only; rw [pd_wa (by omega)])⟩⟩))) (fun z => absurd z (by decide))
      · rw [a1, a2]
        exact pf_mono (ih L2 P q5.2 F a3 a4 a5 a6 (TX_H hT f5) (MIN_H hin f5) a7 a8) (fun r hr => ⟨FA_t (FA_H f5) hr.1, hr.2⟩)
theorem ya57_m (hw : 4294967296 < w) (hn : n ≤ 160) (h0 : ∀ j, n ≤ j → s j = 0) (hW : xR s n []) (hF : FXP s W) (hL : L ≤ 4000) : ∀ (F l : Nat) (v : pd_V), l ≤ 8 → TX n s v → MIN inp v → (∀ j, j < 8 → MRL (8 + j) ((zX0 m).2.2.2.2.2 j) v) → (∀ j, j < l → zLS s j 0 [] v) → Pf (d_Mo_alone_57 w F (Int32.ofNat L) (Int32.ofNat l) v) (fun r => FA v r.2 ∧ MEND (zrd s n inp 4001 L (zY0 m)) r) := by
  intro F
  induction F with
  | zero => intro l v _ _ _ _ _; rw [d_Mo_alone_57]; exact pf_none
  | succ F ih =>
    intro l v hl hT hin hM hS
    rw [d_Mo_alone_57, decide_eq_decide.mpr (lane8 hl)]
    refine pf_d (fun c => ?_) (fun c => ?_)
    · have f28 : FH v (pd_w v 198 28 (Int32.ofNat L)) := ⟨fun a b => pd_wa (by omega), fun k _ _ d => pd_w_nk d, OTG_q (fun d hd => pd_wa (by omega))⟩
      refine pf_mono (ya90_m hw hn h0 hW hF 4001 L (zY0 m) (pd_w v 198 28 (Int32.ofNat L)) w (by omega) hL (zok_0 h0 hW hL) UNI_0 (TX_H hT f28) (MIN_H hin f28) (fun l hl => ?_) pd_w_self) (fun r hr => ⟨FA_t (FA_H f28) hr.1, hr.2⟩)
      have hm := MRL_q (u := pd_w v 198 28 (Int32.ofNat L)) (hM l hl) (fun d hd => pd_wa (by omega))
      cases hs : ((zX0 m).2.2.2.2.2 l).2.2.2.2.2 with
      | true => exact Or.inl ⟨Or.inl hs, by show MRL (8 + l) (zst ((zX0 m).2.2.2.2.2 l)) _; rw [zst_e hs]; exact hm⟩
      | false =>
        refine Or.inr ⟨hs, hm, 0, [], zLS_e (hS l (by omega)) (pd_w_ne (by decide)) (pd_w_ne (by decide)) (fun i _ => pd_w_ne (by decide)), ?_⟩
        exact zbw_e (x := (0, [])) (s0_n h0 hW)
    · have hl' : l < 8 := by omega
      rw [ofN1 l, cl_nat (show l ≤ 1000 by omega)]
      have f2 : FH v (pd_w (pd_w v 210 l (0 : Int32)) 211 l (0 : Int32)) := ⟨fun a b => by rw [pd_wa (by omega), pd_wa (by omega)], fun k _ _ _ => by rw [pd_w_ne (by decide), pd_w_ne (by decide)], OTG_q (fun d hd => by rw [pd_wa (by omega), pd_wa (by omega)])⟩
      refine pf_c (fun _ => pf_c (fun _ => ?_))
      refine pf_mono (ih (l + 1) _ (by omega) (TX_H hT f2) (MIN_H hin f2) (fun j hj => MRL_q (hM j hj) (fun d hd => by rw [pd_wa (by omega), pd_wa (by omega)])) (fun j hj => ?_)) (fun r hr => ⟨FA_t (FA_H f2) hr.1, hr.2⟩)
      by_cases e : j = l
      · subst e
        exact ⟨by rw [pd_w_ne (by decide), pd_w_self]; rfl, ⟨0, rfl⟩, by rw [pd_w_self]; rfl, trivial⟩
      · have h := hS j (by omega)
        exact ⟨by rw [pd_w_ne (by decide), pd_w_nk e]; exact h.1, ⟨0, rfl⟩, by rw [pd_w_nk e, pd_w_ne (by decide)]; exact h.2.2.1, trivial⟩
/-- from its beginning -/
theorem yal_r (hw : 4294967296 < w) (hn : n ≤ 160) (h0 : ∀ j, n ≤ j → s j = 0) (hW : xR s n []) (hF : FXP s W) (hL : L ≤ 4000) (hm : m ≤ 8) (hT : TX n s v) (hin : MIN inp v) : Pf ((d_Mo_begin w (8 : Int32) (Int32.ofNat m) v).bind fun q5 => d_Mo_alone_57 w w (Int32.ofNat L) (0 : Int32) q5) (fun r => FA v r.2 ∧ MEND (zrd s n inp 4001 L (zY0 m)) r) := by
  refine pf_bind (ybg_t (o := 8) (Or.inr rfl) hm) (fun q5 h5 => ?_)
  obtain ⟨b1, b2, b3⟩ := h5
  have f5 : FH v q5 := ⟨fun a b => b3 a (by omega), fun k _ _ _ => by rw [b3 198 (by omega)], b2⟩
  exact pf_mono (ya57_m hw hn h0 hW hF hL w 0 q5 (by omega) (TX_H hT f5) (MIN_H hin f5) b1 (fun j hj => absurd hj (Nat.not_lt_zero _))) (fun r hr => ⟨FA_t (FA_H f5) hr.1, hr.2⟩)
end YMZ
