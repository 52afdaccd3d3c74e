/-! a round of the reference: its first half -/
/-- before a round -/
def LRM (s : Nat → Int32) (n l : Nat) (Y : xAS) (v : pd_V) : Prop := ((Y.2.2.2.2.2.2.2 = true ∨ n ≤ Y.1) ∧ MRL (8 + l) (zst Y.2.2) v) ∨ (Y.2.2.2.2.2.2.2 = false ∧ MRL (8 + l) Y.2.2 v ∧ ∃ p k, zLS s l p k v ∧ zbw s 200 (p, k) = (Y.1, Y.2.1))
/-- what the rounds leave alone -/
def FH (v q : pd_V) : Prop := (∀ a, (a < 198 ∨ 199 ≤ a ∧ a ≤ 203) → q a = v a) ∧ (∀ k, k ≠ 6 → k ≠ 19 → k ≠ 28 → q 198 k = v 198 k) ∧ OTG 8 v q
section YMR
variable {s : Nat → Int32} {n m w p p' q j e c o h r N i1 a b l z d L : Nat} {k k' k0 : xK} {inp : Nat → Int32} {D : xLD} {v u t : pd_V} {x y M : Int32} {Y : Nat → xAS} {X : xAS}
theorem FH_r : FH v v := ⟨fun _ _ => rfl, fun _ _ _ _ => rfl, OTG_r⟩
theorem FH_t (h1 : FH v u) (h2 : FH u t) : FH v t := ⟨fun a b => (h2.1 a b).trans (h1.1 a b), fun k b c d => (h2.2.1 k b c d).trans (h1.2.1 k b c d), OTG_t h1.2.2 h2.2.2⟩
theorem FH_G (hl : l < 8) (h : FG l v u) : FH v u := ⟨h.1, h.2.1, OTG_M hl h.2.2.2⟩
theorem TX_H (h : TX n s v) (f : FH v u) : TX n s u := ⟨by rw [f.2.1 4 (by decide) (by decide) (by decide)]; exact h.1, fun j hj => by rw [f.1 200 (by omega)]; exact h.2 j hj⟩
theorem MIN_H (h : MIN inp v) (f : FH v u) : MIN inp u := fun j hj => by rw [f.1 203 (by omega)]; exact h j hj
theorem LAF_o (hj : j < 8) (hne : j ≠ l) (h : LAF s n j X v) (f : FG l v u) : LAF s n j X u := by
  have o := f.2.2.1 j hj hne
  rcases h with ⟨h1, h2, h3, h4, h5⟩ | ⟨h1, h2, h3⟩
  · exact Or.inl ⟨h1, h2, by rw [o.2.2.1]; exact h3, f.2.2.2 (8 + j) _ (by omega) (by omega) h4, zLS_e h5 o.1 o.2.1 o.2.2.2⟩
  · exact Or.inr ⟨h1, by rw [o.2.2.1]; exact h2, f.2.2.2 (8 + j) _ (by omega) (by omega) h3⟩
theorem LRM_o (hj : j < 8) (hne : j ≠ l) (h : LRM s n j X v) (f : FG l v u) : LRM s n j X u := by
  have o := f.2.2.1 j hj hne
  rcases h with ⟨h1, h2⟩ | ⟨h1, h2, p, k, h3, h4⟩
  · exact Or.inl ⟨h1, f.2.2.2 (8 + j) _ (by omega) (by omega) h2⟩
  · exact Or.inr ⟨h1, f.2.2.2 (8 + j) _ (by omega) (by omega) h2, p, k, zLS_e h3 o.1 o.2.1 o.2.2.2, h4⟩
theorem zst_9 (h : MRL (8 + l) (zst D) v) : v 209 (8 + l) = 1 := h.2.2.2.2.2
theorem yr6_m {Q : Int32 × pd_V → Prop} (hw : 4294967296 < w) (hn : n ≤ 160) (h0 : ∀ j, n ≤ j → s j = 0) (hW : xR s n []) : ∀ (r L : Nat) (Y : Nat → xAS) (v : pd_V) (F : Nat), r ≤ 8 → L ≤ 4000 → zok s L Y → TX n s v → MIN inp v → (∀ l, l < 8 - r → LAF s n l (Y l) v) → (∀ l, 8 - r ≤ l → l < 8 → LRM s n l (Y l) v) → v 198 28 = Int32.ofNat L → ((zph s n inp r L Y).1 = true → ∀ u, TX n s u → MIN inp u → (∀ l, l < 8 → LAF s n l ((zph s n inp r L Y).2.2 l) u) → u 198 28 = Int32.ofNat (zph s n inp r L Y).2.1 → FH v u → Pf (d_Mo_round_49 w w (0 : Int32) (-1 : Int32) (0 : Int32) u) Q) → ((zph s n inp r L Y).1 = false → ∀ u, FH v u → Q ((0 : Int32), u)) → Pf (d_Mo_round_6 w F (0 : Int32) (-1 : Int32) (Int32.ofNat (8 - r)) v) Q := by
  intro r
  induction r with
  | zero =>
    intro L Y v F _ _ hok hT hin hA _ h28 hk _
    cases F with
    | zero => rw [d_Mo_round_6]; exact pf_none
    | succ F =>
      rw [d_Mo_round_6, decide_eq_decide.mpr (lane8 (show 8 - 0 ≤ 8 by omega))]
      exact pf_d (fun _ => hk rfl v hT hin hA h28 FH_r) (fun z => absurd (Nat.le_refl 8) z)
  | succ r ih =>
    intro L Y v F hr hL hok hT hin hA hB h28 hk hno
    cases F with
    | zero => rw [d_Mo_round_6]; exact pf_none
    | succ F =>
      rw [d_Mo_round_6, decide_eq_decide.mpr (lane8 (show 8 - (r + 1) ≤ 8 by omega))]
      refine pf_d (fun z => by omega) (fun _ => ?_)
      have hl : 7 - r < 8 := by omega
      have e7 : 8 - (r + 1) = 7 - r := by omega
      rw [e7] at hA hB ⊢
      rw [ofN1, show (8 : Int32) + Int32.ofNat (7 - r) = Int32.ofNat (8 + (7 - r)) from (Int32.ofNat_add 8 (7 - r)).symm, cl_nat (show 7 - r ≤ 1000 by omega), cl_nat (show 8 + (7 - r) ≤ 1000 by omega), show 7 - r + 1 = 8 - r by omega]
      have hok' := zok_1 (inp := inp) hn h0 hW hl hok
      rw [zph_s] at hk hno
      obtain ⟨ok1, ok2, ok3⟩ := hok (7 - r) hl
      have f15 : FG (7 - r) v (pd_w v 215 (7 - r) (0 : Int32)) := FG_15
      have goon : (zgl s n inp (7 - r) L (Y (7 - r))).1 = true → ∀ u, FG (7 - r) v u → u 198 28 = Int32.ofNat (zgl s n inp (7 - r) L (Y (7 - r))).2.1 → LAF s n (7 - r) (zgl s n inp (7 - r) L (Y (7 - r))).2.2 u → Pf (d_Mo_round_6 w F (0 : Int32) (-1 : Int32) (Int32.ofNat (8 - r)) u) Q := by
        intro hg u u1 u2 u3
        rw [hg] at hk hno
        have fh := FH_G hl u1
        have c := zgl_c (s := s) (n := n) (inp := inp) (l := 7 - r) L (Y (7 - r))
        refine ih _ _ u F (by omega) (by omega) hok' (TX_H hT fh) (MIN_H hin fh) (fun l' hl' => ?_) (fun l' h1 h2 => ?_) u2 (fun t u' a1 a2 a3 a4 a5 => hk t u' a1 a2 a3 a4 (FH_t fh a5)) (fun t u' a1 => hno t u' (FH_t fh a1))
        · by_cases e : l' = 7 - r
          · rw [e, zyu_s]
            exact u3
          · rw [zyu_n e]
            exact LAF_o (by omega) e (hA l' (by omega)) u1
        · rw [zyu_n (by omega)]
          exact LRM_o h2 (by omega) (hB l' (by omega) h2) u1
      refine pf_c (fun _ => pf_c (fun _ => ?_))
      rcases hB (7 - r) (Nat.le_refl _) hl with ⟨b1, b2⟩ | ⟨b1, b2, p, k, b3, b4⟩
      · rw [zst_9 b2]
        refine pf_n (fun _ => ?_) (fun z => absurd z (by decide))
        have hh : zhl s n (Y (7 - r)) = true := by
          unfold zhl
          rcases b1 with t | t
          · rw [t]; rfl
          · rw [ble_t t, Bool.true_or, Bool.or_true]
        have eg := zgl_h (inp := inp) (l := 7 - r) (L := L) hh
        refine goon (by rw [eg]) _ f15 (by rw [eg, pd_w_ne (by decide)]; exact h28) ?_
        rw [eg]
        exact Or.inr ⟨b1, pd_w_self, MRL_q b2 (fun d hd => pd_wa (by omega))⟩
      · have e9 : v 209 (8 + (7 - r)) = 0 := by
          rw [b2.2.2.2.2.2, b1]
          rfl
        rw [e9]
        refine pf_n (fun z => absurd rfl z) (fun _ => ?_)
        unfold d_Mo_goes
        rw [show (8 : Int32) + Int32.ofNat (7 - r) = Int32.ofNat (8 + (7 - r)) from (Int32.ofNat_add 8 (7 - r)).symm]
        refine pf_bind (ygs_m (inp := inp) hw hn h0 hW hl w L (Y (7 - r)) (pd_w v 215 (7 - r) (0 : Int32)) (TX_H hT (FH_G hl f15)) (MIN_H hin (FH_G hl f15)) (MRL_q b2 (fun d hd => pd_wa (by omega))) (Or.inr ⟨p, k, zLS_e b3 (pd_w_ne (by decide)) (pd_w_ne (by decide)) (fun i _ => pd_w_ne (by decide)), b4⟩) (by rw [pd_w_ne (by decide)]; exact h28) pd_w_self hL ok3) (fun q5 h5 => ?_)
        obtain ⟨g1, g2⟩ := h5
        rcases g2 with ⟨g2, g3⟩ | ⟨g2, g3, g4, g5⟩
        · rw [g3]
          refine pf_n (fun z => absurd rfl z) (fun _ => pf_some ?_)
          rw [g2] at hno
          exact hno rfl q5.2 (FH_t (FH_G hl f15) (FH_G hl g1))
        · rw [g3]
          refine pf_n (fun _ => ?_) (fun z => absurd z (by decide))
          exact goon g2 q5.2 (FG_t f15 g1) g4 g5
end YMR
