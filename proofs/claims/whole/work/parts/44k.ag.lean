/-! the reference begins, and does the run in step again -/
section YAG
variable {s : Nat → Int32} {n m w p p' q j e c o h r N i1 a b l z FU i : Nat} {inp : Nat → Int32} {v u t : pd_V} {x y : Int32}
theorem ybg_13 {K : Int32 → Int32 → Int32 → pd_V → Option pd_V} {y1 y2 : Int32} {v0 : pd_V} {Q : pd_V → Prop} (ha : a < 16) (hK : ∀ u, (∀ d, d ≠ 204 → d ≠ 205 → u d = v0 d) → (∀ i, (i < 8 * a ∨ 8 * a + 8 ≤ i) → u 204 i = v0 204 i ∧ u 205 i = v0 205 i) → (∀ i, i < 8 → u 204 (8 * a + i) = 0 ∧ u 205 (8 * a + i) = 0) → Pf (K y1 y2 (Int32.ofNat a) u) Q) : ∀ (F j : Nat) (v : pd_V), (∀ d, d ≠ 204 → d ≠ 205 → v d = v0 d) → (∀ i, (i < 8 * a ∨ 8 * a + 8 ≤ i) → v 204 i = v0 204 i ∧ v 205 i = v0 205 i) → j ≤ 8 → (∀ i, i < j → v 204 (8 * a + i) = 0 ∧ v 205 (8 * a + i) = 0) → Pf (d_Mo_begin_13 K w F y1 y2 (Int32.ofNat a) (Int32.ofNat j) v) Q := by
  intro F
  induction F with
  | zero => intro j v _ _ _ _; rw [d_Mo_begin_13]; exact pf_none
  | succ F ih =>
    intro j v h1 h2 hj h3
    rw [d_Mo_begin_13, decide_eq_decide.mpr (lane8 hj)]
    refine pf_d (fun c => hK v h1 h2 (fun i hi => h3 i (by omega))) (fun c => ?_)
    have hj' : j < 8 := by omega
    have ei : (((8 : Int32) * Int32.ofNat a) + Int32.ofNat j).toNatClampNeg = 8 * a + j := by
      have ej : (Int32.ofNat j).toInt = j := Int32.toInt_ofNat_of_lt (by omega)
      rw [cel_i ha (by rw [ej]; omega), cl_nat (by omega)]
    rw [ofN1 j, ei]
    refine pf_c (fun _ => pf_c (fun _ => ?_))
    refine ih (j + 1) _ (fun d d1 d2 => by rw [pd_wa d2, pd_wa d1]; exact h1 d d1 d2) (fun i hi => ⟨?_, ?_⟩) (by omega) (fun i hi => ⟨?_, ?_⟩)
    · rw [pd_w_ne (by decide), pd_w_nk (by omega)]
      exact (h2 i hi).1
    · rw [pd_w_nk (by omega), pd_w_ne (by decide)]
      exact (h2 i hi).2
    · rw [pd_w_ne (by decide)]
      by_cases e : i = j
      · rw [e, pd_w_self]
      · rw [pd_w_nk (by omega)]
        exact (h3 i (by omega)).1
    · by_cases e : i = j
      · rw [e, pd_w_self]
      · rw [pd_w_nk (by omega), pd_w_ne (by decide)]
        exact (h3 i (by omega)).2
theorem ybg_2 (ho : o = 0 ∨ o = 8) (hm : m ≤ 8) : ∀ (F a : Nat) (v : pd_V), o ≤ a → a ≤ o + 8 → (∀ l, l < 8 → o + l < a → MRL (o + l) ((zX0 m).2.2.2.2.2 l) v) → Pf (d_Mo_begin_2 w F (Int32.ofNat o) (Int32.ofNat m) (Int32.ofNat a) v) (fun q => (∀ l, l < 8 → MRL (o + l) ((zX0 m).2.2.2.2.2 l) q) ∧ OTG o v q ∧ (∀ d, (d < 204 ∨ 209 < d) → q d = v d)) := by
  intro F
  induction F with
  | zero => intro a v _ _ _; rw [d_Mo_begin_2]; exact pf_none
  | succ F ih =>
    intro a v ha1 ha2 hL
    rw [d_Mo_begin_2, show Int32.ofNat o + (8 : Int32) = Int32.ofNat (o + 8) from (Int32.ofNat_add o 8).symm, le_nat (by omega) (by omega)]
    refine pf_d (fun c => pf_some ⟨fun l hl => hL l hl (by omega), OTG_r, fun _ _ => rfl⟩) (fun c => ?_)
    refine ybg_13 (v0 := v) (by omega) (fun u hu1 hu2 hu3 => ?_) w 0 v (fun _ _ _ => rfl) (fun _ _ => ⟨rfl, rfl⟩) (by omega) (fun i hi => absurd hi (Nat.not_lt_zero _))
    have go : ∀ z : Int32, z = bi (!(decide (a - o < m))) → Pf (d_Mo_begin_2 w F (Int32.ofNat o) (Int32.ofNat m) (Int32.ofNat (a + 1)) (pd_w (pd_w (pd_w u 207 a 0) 208 a 0) 209 a z)) (fun q => (∀ l, l < 8 → MRL (o + l) ((zX0 m).2.2.2.2.2 l) q) ∧ OTG o v q ∧ (∀ d, (d < 204 ∨ 209 < d) → q d = v d)) := by
      intro z hz
      have e4 : pd_w (pd_w (pd_w u 207 a 0) 208 a 0) 209 a z 204 = u 204 := by rw [pd_wa (by decide), pd_wa (by decide), pd_wa (by decide)]
      have e5 : pd_w (pd_w (pd_w u 207 a 0) 208 a 0) 209 a z 205 = u 205 := by rw [pd_wa (by decide), pd_wa (by decide), pd_wa (by decide)]
      have e6 : pd_w (pd_w (pd_w u 207 a 0) 208 a 0) 209 a z 206 = v 206 := by rw [pd_wa (by decide), pd_wa (by decide), pd_wa (by decide), hu1 206 (by decide) (by decide)]
      have oth : ∀ L D, L < 16 → L ≠ a → MRL L D v → MRL L D (pd_w (pd_w (pd_w u 207 a 0) 208 a 0) 209 a z) := by
        intro L D hL1 hL2 hM
        obtain ⟨m1, m2, m3, m4, m5, m6⟩ := hM
        refine ⟨fun j hj => ?_, fun j hj => ?_, fun j hj hc => ?_, ?_, ?_, ?_⟩
        · rw [e4, (hu2 (8 * L + j) (by omega)).1]
          exact m1 j hj
        · rw [e5, (hu2 (8 * L + j) (by omega)).2]
          exact m2 j hj
        · rw [e6]
          exact m3 j hj hc
        · rw [pd_w_ne (by decide), pd_w_ne (by decide), pd_w_nk hL2, hu1 207 (by decide) (by decide)]
          exact m4
        · rw [pd_w_ne (by decide), pd_w_nk hL2, pd_w_ne (by decide), hu1 208 (by decide) (by decide)]
          exact m5
        · rw [pd_w_nk hL2, pd_w_ne (by decide), pd_w_ne (by decide), hu1 209 (by decide) (by decide)]
          exact m6
      refine pf_mono (ih (a + 1) _ (by omega) (by omega) (fun l hl hla => ?_)) (fun q hq => ⟨hq.1, OTG_t (fun L D hL1 hL2 hM => oth L D hL1 (by omega) hM) hq.2.1, fun d hd => ?_⟩)
      · by_cases e : o + l = a
        · have el : a - o = l := by omega
          rw [e]
          refine ⟨fun j hj => ?_, fun j hj => ?_, fun j hj hc => absurd hc (Nat.not_lt_zero _), ?_, ?_, ?_⟩
          · rw [e4, (hu3 j hj).1]
            rfl
          · rw [e5, (hu3 j hj).2]
            rfl
          · rw [pd_w_ne (by decide), pd_w_ne (by decide), pd_w_self]
            rfl
          · rw [pd_w_ne (by decide), pd_w_self]
            rfl
          · rw [pd_w_self, hz, el]
            rfl
        · exact oth (o + l) _ (by omega) e (hL l hl (by omega))
      · rw [hq.2.2 d hd, pd_wa (by omega), pd_wa (by omega), pd_wa (by omega), hu1 d (by omega) (by omega)]
    rw [cl_nat (show a ≤ 1000 by omega), ofN1 a, show Int32.ofNat o + Int32.ofNat m = Int32.ofNat (o + m) from (Int32.ofNat_add o m).symm, lt_nat (by omega) (by omega)]
    refine pf_c (fun _ => pf_c (fun _ => pf_d (fun c1 => pf_c (fun _ => go _ ?_)) (fun c1 => pf_c (fun _ => go _ ?_))))
    · rw [decide_eq_true (show a - o < m by omega)]
      rfl
    · rw [decide_eq_false (show ¬ a - o < m by omega)]
      rfl
theorem ybg_t (ho : o = 0 ∨ o = 8) (hm : m ≤ 8) : Pf (d_Mo_begin w (Int32.ofNat o) (Int32.ofNat m) v) (fun q => (∀ l, l < 8 → MRL (o + l) ((zX0 m).2.2.2.2.2 l) q) ∧ OTG o v q ∧ (∀ d, (d < 204 ∨ 209 < d) → q d = v d)) := by
  unfold d_Mo_begin
  exact ybg_2 ho hm w o v (Nat.le_refl _) (by omega) (fun l _ h => by omega)
theorem yag_t (hw : 4294967296 < w) (hn : n ≤ 160) (h0 : ∀ j, n ≤ j → s j = 0) (hN : N ≤ 80) (hx : xit s N (0, []) = some (n, [])) (hm : m ≤ 8) (h21 : v 198 21 = Int32.ofNat m) (h22 : v 198 22 = Int32.ofNat FU) (hFU : FU ≤ 900000) (hT : TX n s v) (hin : MIN inp v) : Pf (d_Mo_again w v) (fun r => RES s n inp (zX0 m) FU r.2 ∧ r.1 = (bif decide ((zT s n inp (zX0 m) FU).1.1 < n) then 0 else 1) ∧ OTG 0 v r.2 ∧ r.2 198 27 = v 198 27) := by
  unfold d_Mo_again
  rw [h21]
  refine pf_bind (ybg_t (o := 0) (Or.inl rfl) hm) (fun q1 hq1 => ?_)
  obtain ⟨b1, b2, b3⟩ := hq1
  unfold d_Mo_all
  obtain ⟨u, hu⟩ : ∃ u, u = pd_w (pd_w (pd_w (pd_w (pd_w (pd_w q1 198 23 (0 : Int32)) 198 24 (0 : Int32)) 198 25 (0 : Int32)) 198 26 (0 : Int32)) 198 35 (0 : Int32)) 198 36 (255 : Int32) := ⟨_, rfl⟩
  rw [← hu]
  have ud : ∀ d, d ≠ 198 → u d = q1 d := fun d hd => by rw [hu, pd_wa hd, pd_wa hd, pd_wa hd, pd_wa hd, pd_wa hd, pd_wa hd]
  have uk : ∀ k, k < 23 → u 198 k = v 198 k := fun k hk => by
    rw [hu, pd_w_nk (by omega), pd_w_nk (by omega), pd_w_nk (by omega), pd_w_nk (by omega), pd_w_nk (by omega), pd_w_nk (by omega), b3 198 (by omega)]
  have e23 : u 198 23 = 0 := by rw [hu, pd_w_nk (by decide), pd_w_nk (by decide), pd_w_nk (by decide), pd_w_nk (by decide), pd_w_nk (by decide), pd_w_self]
  have e24 : u 198 24 = 0 := by rw [hu, pd_w_nk (by decide), pd_w_nk (by decide), pd_w_nk (by decide), pd_w_nk (by decide), pd_w_self]
  have e25 : u 198 25 = 0 := by rw [hu, pd_w_nk (by decide), pd_w_nk (by decide), pd_w_nk (by decide), pd_w_self]
  have e26 : u 198 26 = 0 := by rw [hu, pd_w_nk (by decide), pd_w_nk (by decide), pd_w_self]
  have e35 : u 198 35 = 0 := by rw [hu, pd_w_nk (by decide), pd_w_self]
  have e36 : u 198 36 = 255 := by rw [hu, pd_w_self]
  have hM : MRS 0 inp (zX0 m).2.2.2.2.2 u := ⟨fun j hj => by rw [ud 203 (by decide), b3 203 (by omega)]; exact hin j hj, fun l hl => MRL_q (b1 l hl) (fun d hd => ud d (by omega))⟩
  have hA : AM s n inp (zX0 m) u := ⟨⟨by rw [uk 4 (by decide)]; exact hT.1, fun j hj => by rw [ud 200 (by decide), b3 200 (by omega)]; exact hT.2 j hj⟩, e35, trivial, ⟨fun _ => true, by rw [e36]; exact MK8_255, fun x hx => by
      show (true && !(!(decide (x < m)))) = decide (x < m)
      rw [Bool.true_and, Bool.not_not]⟩, trivial, hM, fun x hx hf => by
      show (!(decide (x < m))) = false
      have hf : decide (x < m) = true := hf
      rw [hf]
      rfl, fun i hi => absurd hi (Nat.not_lt_zero _), fun i j _ hj => absurd hj (Nat.not_lt_zero _), fun _ _ _ _ => rfl, fun i hi => absurd hi (Nat.not_lt_zero _)⟩
  have main := yal_m (w := w) (X0 := zX0 m) hw hn h0 hN hx (fun _ => rfl) hFU w 0 (zX0 m) u hA ⟨0, rfl⟩ rfl (Nat.zero_le _) ((uk 22 (by decide)).trans h22) e23 rfl e24 e25 e26
  refine pf_bind main (fun q2 hq2 => ?_)
  obtain ⟨r1, r2, r27⟩ := hq2
  have e27 : q2 198 27 = v 198 27 := by rw [r27, hu, pd_w_nk (by decide), pd_w_nk (by decide), pd_w_nk (by decide), pd_w_nk (by decide), pd_w_nk (by decide), pd_w_nk (by decide), b3 198 (by omega)]
  have ot : OTG 0 v q2 := OTG_t b2 (OTG_t (OTG_q (fun d hd => ud d (by omega))) r2)
  obtain ⟨-, -, -, r3⟩ := id r1
  refine pf_d (fun c => pf_some ⟨r1, ?_, ot, e27⟩) (fun c => pf_some ⟨r1, ?_, ot, e27⟩)
  · rcases r3 with ⟨c1, -, -⟩ | ⟨-, c2, -⟩
    · rw [decide_eq_false (by omega)]
      rfl
    · rw [c2] at c
      exact absurd c (by decide)
  · rcases r3 with ⟨-, c2, -⟩ | ⟨c1, -, -⟩
    · exact absurd c2 c
    · rw [decide_eq_true c1]
      rfl
end YAG
