/-! an expression, as the class reads it -/
section RXS
variable {s : Nat → Int32} {n m w a i0 p d : Nat} {v u : pd_V} {k : List Int32} {x c : Int32} {E : Int32 → pd_V → Option (Int32 × pd_V)}
theorem xb_sgn (h : xsgn c = true) : xb c = 0 := by
  rcases xsgn_c h with e | e | e | e | e | e <;> (rw [e]; decide)
theorem jn_eq {l r : Int32} (h : xsgn c = true) : d_Cr_joined c l r = d_Mo_joined l c r := by
  rcases xsgn_c h with e | e | e | e | e | e <;> (rw [e]; rfl)
theorem pf1_sgn {e : xEv} {y z : Int32} {st : List Int32} (h : xsgn c = true) : pf1 e (c, 0) (y :: z :: st) = some (d_Cr_joined c z y :: st) := by
  rcases xsgn_c h with e | e | e | e | e | e <;> (rw [e]; rfl)
theorem IT_app {it it2 : List (Int32 × Int32)} (ha : ker a) (h1 : IT a i0 it v) (h2 : IT a (i0 + it.length) it2 u) (hX : XF a (i0 + it.length) v u) : IT a i0 (it ++ it2) u := by
  refine ⟨by rw [h2.1, List.length_append, Nat.add_assoc], fun j i hj => ?_⟩
  by_cases c : j < it.length
  · rw [List.getElem?_append_left c] at hj
    have := hX.2.2.2 (i0 + j) (by omega)
    rw [this.1, this.2]
    exact h1.2 j i hj
  · rw [List.getElem?_append_right (by omega)] at hj
    have := h2.2 (j - it.length) i hj
    rw [show i0 + it.length + (j - it.length) = i0 + j by omega] at this
    exact this
theorem rx_m (hw : 4294967296 < w) (hn : n ≤ 160) (h0 : ∀ j, n ≤ j → s j = 0) (ha : ker a) (hd : d ≤ 4) (hE : d < 4 → ∀ (k' : List Int32) (i' p' : Nat) (u : pd_V), k'.length + 4 = d + 1 + m → TP s n m k' a i' p' u → Sf (E (Int32.ofNat (d + 1)) u) (RX s n m k' a i' p' u)) (hk : k.length + 4 = d + m) (hT : TP s n m k a i0 p v) : ∀ (f t q : Nat) (it : List (Int32 × Int32)) (ev : xEv → Option Int32) (g : Int32) (u : pd_V), xq s n m p k true = xq s n m q k false → RS s n a i0 p q it v u → (∀ (e : xEv) (st : List Int32), pfx e it st = (ev e).map (fun x => x :: st)) → (∀ (e : xEv) (K : xKV), xv s n e p K 0 43 true = (ev e).bind (fun x => xv s n e q K x g false)) → (∀ (e : xEv) (st : List Int32) (B : Nat), st.length + (m - k.length) + 2 ≤ B → HB e it st B) → t ≤ q → n - q < f → Sf (d_Re_readExpression_12 w E f (Int32.ofNat d) (Int32.ofNat t) u) (RX s n m k a i0 p v) := by
  have pa : a = 3 ∨ a = 88 := ha
  obtain ⟨t1, t2, t3, t4, t5, t6, t7⟩ := id hT
  intro f
  induction f with
  | zero => intro t q it ev g u _ _ _ _ _ _ h; exact absurd h (Nat.not_lt_zero _)
  | succ f ih =>
    intro t q it ev g u hq hS hp1 hp2 hp3 ht hf
    obtain ⟨s1, s2, s3, s4, s5, s6, s7⟩ := id hS
    have hD := RD_X ha t1 s4
    have done : xsgn (s q) = false → RX s n m k a i0 p v ((1 : Int32), u) := fun h => Or.inr ⟨rfl, q, it, ev, hq, h, hS, hp1, fun e K => by
      rw [hp2 e K]
      congr 1
      funext x
      exact xv_si s2 h, hp3⟩
    rw [d_Re_readExpression_12, hD.1, le_nat (by omega) (by omega)]
    refine sf_d (fun c => sf_some (done (by rw [h0 q (by omega)]; decide))) (fun c => ?_)
    rw [nx_t hn hD s3 (by omega)]
    refine sf_sb ?_
    by_cases hqn : q < n
    rotate_left
    · have e : xsN s n q = -1 := by unfold xsN; rw [decide_eq_false hqn]; rfl
      rw [e]
      refine sf_n (fun c => absurd (by decide) c) (fun _ => sf_some (done (by rw [h0 q (by omega)]; decide)))
    have e : xsN s n q = s q := by unfold xsN; rw [decide_eq_true hqn]; rfl
    rw [e, isO, Bool.not_not]
    cases z : xsgn (s q) with
    | false => exact sf_f (sf_some (done z))
    | true =>
      refine sf_tt ?_
      have s3' : u 1 2 = Int32.ofNat q := s3
      have X1 : XF a (i0 + it.length) u (pd_w u 1 2 (Int32.ofNat q + (1 : Int32))) := XF_1 ha XF_r (Or.inl rfl)
      have T2 : TP s n m k a (i0 + it.length) (q + 1) (pd_w u 1 2 (Int32.ofNat q + (1 : Int32))) := ⟨RD_X ha hD X1, Ac_1, by omega, ker_X ha (ker_X ha t4 s4) X1, by rw [pd_w_ne (by omega)]; exact s5.1, by omega, t7⟩
      rw [s3']
      refine sf_bind (zrt_t hw hn h0 ha hd hE hk T2) (fun q5 h5 => ?_)
      have X0 := XF_t (Nat.le_add_right i0 it.length) s4 X1
      rcases h5 with ⟨e1, q2, b1, b2, b3, b4⟩ | ⟨e1, q2, it2, ev2, b1, b2, b3⟩
      · rw [e1]
        refine sf_n (fun c => absurd rfl c) (fun _ => sf_some (Or.inl ⟨rfl, q2, b1, ?_, b3, XF_t (Nat.le_add_right i0 it.length) X0 b4⟩))
        rw [hq, xq_sg hn h0 (by omega) z]
        exact b2
      · rw [e1]
        refine sf_n (fun _ => ?_) (fun c => absurd c (by decide))
        obtain ⟨c1, c2, c3, c4, c5, c6, c7⟩ := b2
        have X5 := XF_t (Nat.le_add_right i0 it.length) X0 c4
        have XX := XF_t (Nat.le_refl _) X1 c4
        have I2 : IT a i0 (it ++ it2) q5.2 := IT_app ha s5 c5 XX
        rw [ker_X ha t4 X5]
        refine sf_bind (ai_t (y := s q) (z := 0) ha I2 (by rw [List.length_append]; omega)) (fun q7 h7 => ?_)
        rw [ofN1 t]
        refine ih (t + 1) q2 ((it ++ it2) ++ [(s q, 0)]) (fun e => (ev e).bind (fun x => (ev2 e).map (fun y => d_Mo_joined x (s q) y))) (s q) q7 ?_ ⟨by omega, c2, ?_, XF_t (Nat.le_add_right _ _) X5 h7.2.1, h7.1, ?_, ?_⟩ (fun e st => ?_) (fun e K => ?_) (fun e st B hB => ?_) (by omega) (by omega)
        · rw [hq, xq_sg hn h0 (by omega) z]
          exact b1
        · show q7 1 2 = _
          rw [h7.2.2]
          exact c3
        · rw [List.length_append, List.length_append]
          show it.length + it2.length + 1 ≤ q2 - p
          omega
        · rw [h7.2.2, c7, pd_w_nk (by decide), s7, show q2 - p = (q - p) + (1 + (q2 - (q + 1))) by omega, xnm_a, xnm_a, xnm_1, show p + (q - p) = q by omega, xb_sgn z, Int32.zero_or, Int32.or_assoc]
        · rw [pfx_a, pfx_a, hp1]
          cases ev e with
          | none => rfl
          | some x =>
            show ((pfx e it2 (x :: st)).bind (pfx e [(s q, 0)])) = ((ev2 e).map (fun y => d_Mo_joined x (s q) y)).map (fun x => x :: st)
            rw [b3.1]
            cases ev2 e with
            | none => rfl
            | some y =>
              show (pf1 e (s q, 0) (y :: x :: st)).bind (pfx e []) = _
              rw [pf1_sgn z, jn_eq z]
              rfl
        · rw [hp2]
          cases ev e with
          | none => rfl
          | some x =>
            show xv s n e q K x g false = ((ev2 e).map (fun y => d_Mo_joined x (s q) y)).bind (fun x => xv s n e q2 K x (s q) false)
            rw [xv_sg hn h0 (by omega) z, b3.2.1]
            cases ev2 e <;> rfl
        · refine HB_a (it ++ it2) st (HB_a it st (hp3 e st B hB) (fun s1 h1 => ?_)) (fun s1 h1 => ?_)
          · rw [hp1] at h1
            cases hev : ev e with
            | none => rw [hev] at h1; exact nomatch h1
            | some x =>
              rw [hev] at h1
              have h2 : x :: st = s1 := Option.some.inj h1
              rw [← h2]
              exact b3.2.2 e (x :: st) B (by show st.length + 1 + (m - k.length) + 1 ≤ B; omega)
          · rw [pfx_a, hp1] at h1
            cases hev : ev e with
            | none => rw [hev] at h1; exact nomatch h1
            | some x =>
              rw [hev] at h1
              have h2 : pfx e it2 (x :: st) = some s1 := h1
              rw [b3.1] at h2
              cases hev2 : ev2 e with
              | none => rw [hev2] at h2; exact nomatch h2
              | some y =>
                rw [hev2] at h2
                have h3 : y :: x :: st = s1 := Option.some.inj h2
                rw [← h3]
                refine ⟨fun h5 => by rw [pf1_sgn z] at h5; exact (nomatch h5), fun z97 => by rcases xsgn_c z with e | e | e | e | e | e <;> (rw [e] at z97; exact absurd z97 (by decide)), fun s2 h4 => ?_⟩
                rw [pf1_sgn z] at h4
                rw [← Option.some.inj h4]
                exact ⟨by show st.length + 1 ≤ B; omega, trivial⟩
theorem zrx_t (hw : 4294967296 < w) (hn : n ≤ 160) (h0 : ∀ j, n ≤ j → s j = 0) (ha : ker a) (hd : d ≤ 4) (hE : d < 4 → ∀ (k' : List Int32) (i' p' : Nat) (u : pd_V), k'.length + 4 = d + 1 + m → TP s n m k' a i' p' u → Sf (E (Int32.ofNat (d + 1)) u) (RX s n m k' a i' p' u)) (hk : k.length + 4 = d + m) (hT : TP s n m k a i0 p v) : Sf (d_Re_readExpression w E (Int32.ofNat d) v) (RX s n m k a i0 p v) := by
  unfold d_Re_readExpression
  refine sf_bind (zrt_t hw hn h0 ha hd hE hk hT) (fun q1 h1 => ?_)
  rcases h1 with ⟨e1, b⟩ | ⟨e1, q, it, ev, b1, b2, b3⟩
  · rw [e1]
    exact sf_n (fun c => absurd rfl c) (fun _ => sf_some (Or.inl ⟨rfl, b⟩))
  · rw [e1]
    refine sf_n (fun _ => ?_) (fun c => absurd c (by decide))
    refine rx_m hw hn h0 ha hd hE hk hT w 0 q it ev 43 q1.2 b1 b2 b3.1 (fun e K => ?_) (fun e st B hB => b3.2.2 e st B (by omega)) (Nat.zero_le _) (by omega)
    rw [b3.2.1]
    congr 1
    funext x
    rw [joined0]
theorem re_m (hw : 4294967296 < w) (hn : n ≤ 160) (h0 : ∀ j, n ≤ j → s j = 0) (ha : ker a) : ∀ (N d : Nat) (k : List Int32) (i0 p : Nat) (v : pd_V), 5 ≤ d + N → d ≤ 4 → k.length + 4 = d + m → TP s n m k a i0 p v → Sf (d_RE w N (Int32.ofNat d) v) (RX s n m k a i0 p v) := by
  intro N
  induction N with
  | zero => intro d k i0 p v h1 h2; exact absurd h1 (by omega)
  | succ N ih =>
    intro d k i0 p v h1 h2 hk hT
    exact zrx_t hw hn h0 ha h2 (fun h4 k' i' p' u hk' hT' => ih (d + 1) k' i' p' u (by omega) (by omega) hk' hT') hk hT
theorem zre_t (hw : 4294967296 < w) (hn : n ≤ 160) (h0 : ∀ j, n ≤ j → s j = 0) (ha : ker a) (hd : d ≤ 4) (hk : k.length + 4 = d + m) (hT : TP s n m k a i0 p v) : Sf (d_RE5 w (Int32.ofNat d) v) (RX s n m k a i0 p v) := by
  unfold d_RE5
  exact re_m hw hn h0 ha 5 d k i0 p v (by omega) hd hk hT
end RXS
