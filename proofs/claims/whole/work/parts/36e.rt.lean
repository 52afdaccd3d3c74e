/-! brackets and terms, as the class reads them -/
section RTT
variable {s : Nat → Int32} {n m w a i0 p d : Nat} {v u : pd_V} {k : List Int32} {x c o cl : Int32} {E : Int32 → pd_V → Option (Int32 × pd_V)}
def BR (s : Nat → Int32) (n m : Nat) (k : List Int32) (a i0 p d : Nat) (c o : Int32) (v : pd_V) (r : Int32 × pd_V) : Prop :=
  (r.1 = 0 ∧ (((d = 4 ∨ s p ≠ o) ∧ r.2 = v) ∨ (d < 4 ∧ s p = o ∧ ∃ q, q ≤ n ∧ xq s n m (p + 1) (c :: k) true = (false, q) ∧ Ac q r.2 ∧ XF a i0 v r.2)))
  ∨ (r.1 = 1 ∧ d < 4 ∧ s p = o ∧ ∃ q it ev, xq s n m (p + 1) (c :: k) true = xq s n m (q + 1) k false ∧ s q = xclo c ∧ p + 1 < q ∧ q + 1 ≤ n ∧ Ac (q + 1) r.2 ∧ XF a i0 v r.2 ∧ IT a i0 it r.2 ∧ it.length ≤ q - (p + 1) ∧ r.2 1 6 = v 1 6 ||| xnm s (p + 1) (q - (p + 1)) ∧ EX s n (m - (c :: k).length) (p + 1) q it ev)
theorem IT_1 {it : List (Int32 × Int32)} {j : Nat} (ha : ker a) (h : IT a i0 it u) : IT a i0 it (pd_w u 1 j x) := by
  have pa : a = 3 ∨ a = 88 := ha
  refine ⟨by rw [pd_w_ne (by omega)]; exact h.1, fun i y hy => ?_⟩
  rw [pd_w_ne (by omega), pd_w_ne (by omega)]
  exact h.2 i y hy
theorem zbr_t (hn : n ≤ 160) (h0 : ∀ j, n ≤ j → s j = 0) (ha : ker a) (hd : d ≤ 4) (hE : d < 4 → ∀ (k' : List Int32) (i' p' : Nat) (u : pd_V), k'.length + 4 = d + 1 + m → TP s n m k' a i' p' u → Sf (E (Int32.ofNat (d + 1)) u) (RX s n m k' a i' p' u)) (ho : o = 40 ∨ o = 91) (hcl : cl = xclo c) (hk : k.length + 4 = d + m) (hT : TP s n m k a i0 p v) : Sf (d_Re_readBracket E o cl (Int32.ofNat d) v) (BR s n m k a i0 p d c o v) := by
  have ho0 : o ≠ 0 := by rcases ho with h | h <;> (rw [h]; decide)
  have hox : xok o := by rcases ho with h | h <;> (rw [h]; unfold xok; decide)
  have hc0 : cl ≠ 0 := by rw [hcl]; rcases xclo_c c with h | h <;> (rw [h]; decide)
  obtain ⟨t1, t2, t3, t4, t5, t6, t7⟩ := id hT
  unfold d_Re_readBracket
  rw [show (4 : Int32) = Int32.ofNat 4 from rfl, le_nat (by omega) (by omega)]
  refine sf_d (fun c4 => sf_some (Or.inl ⟨rfl, Or.inl ⟨Or.inl (by omega), rfl⟩⟩)) (fun c4 => ?_)
  rw [tkc_t hn h0 t1 t2 (by omega) ho0]
  refine sf_sb ?_
  cases z : decide (s p = o) with
  | false => exact sf_d (fun _ => sf_some (Or.inl ⟨rfl, Or.inl ⟨Or.inr (of_decide_eq_false z), rfl⟩⟩)) (fun c => absurd rfl c)
  | true =>
    refine sf_d (fun c => absurd (show (1 : Int32) = 0 from c) (by decide)) (fun _ => ?_)
    have zo : s p = o := of_decide_eq_true z
    have p1 : p + 1 ≤ n := xrg_n h0 t3 (xrg_1 (by rw [zo]; exact hox))
    have T1 := TP_1 ha hT p1
    have T2 : TP s n m (c :: k) a i0 (p + 1) (pd_w v 1 2 (Int32.ofNat p + (1 : Int32))) := ⟨T1.1, T1.2.1, T1.2.2.1, T1.2.2.2.1, T1.2.2.2.2.1, T1.2.2.2.2.2.1, by show k.length + 1 ≤ m; omega⟩
    have X1 : XF a i0 v (pd_w v 1 2 (Int32.ofNat p + (1 : Int32))) := XF_1 ha XF_r (Or.inl rfl)
    have m1 : pd_w v 1 2 (Int32.ofNat p + (1 : Int32)) 1 6 = v 1 6 := pd_w_nk (by decide)
    rw [show Int32.ofNat d + (1 : Int32) = Int32.ofNat (d + 1) from ofN1 d]
    refine sf_bind (hE (by omega) (c :: k) i0 (p + 1) _ (by show k.length + 1 + 4 = d + 1 + m; omega) T2) (fun q4 h4 => ?_)
    rcases h4 with ⟨e1, q, q1, q2, q3, q4'⟩ | ⟨e1, q, it, ev, q1, q2, q3, q5⟩
    · rw [e1]
      exact sf_d (fun _ => sf_some (Or.inl ⟨rfl, Or.inr ⟨by omega, zo, q, q1, q2, q3, XF_t (Nat.le_refl _) X1 q4'⟩⟩)) (fun c => absurd rfl c)
    · rw [e1]
      obtain ⟨s1, s2, s3, s4, s5, s6, s7⟩ := q3
      refine sf_d (fun c => absurd c (by decide)) (fun _ => ?_)
      have X4 := XF_t (Nat.le_refl _) X1 s4
      rw [tkc_t hn h0 (RD_X ha T1.1 s4) s3 (by omega) hc0]
      refine sf_sb ?_
      cases z2 : decide (s q = cl) with
      | false =>
        refine sf_d (fun _ => sf_some (Or.inl ⟨rfl, Or.inr ⟨by omega, zo, q, s2, ?_, s3, X4⟩⟩)) (fun c => absurd rfl c)
        rw [q1, xq_cl hn h0 s2 q2, ← hcl, z2]
        rfl
      | true =>
        refine sf_d (fun c => absurd (show (1 : Int32) = 0 from c) (by decide)) (fun _ => ?_)
        have zq : s q = xclo c := (of_decide_eq_true z2).trans hcl
        have qn : q + 1 ≤ n := xrg_n h0 s2 (xrg_1 (xclo_ok zq))
        refine sf_some (Or.inr ⟨rfl, by omega, zo, q, it, ev, ?_, zq, s1, qn, Ac_1, XF_1 ha X4 (Or.inl rfl), IT_1 ha s5, s6, ?_, q5⟩)
        · rw [q1, xq_cl hn h0 s2 q2, ← hcl, z2]
          rfl
        · show pd_w q4.2 1 2 (Int32.ofNat q + (1 : Int32)) 1 6 = v 1 6 ||| xnm s (p + 1) (q - (p + 1))
          rw [pd_w_nk (by decide)]
          exact s7.trans (congrArg (fun t => t ||| xnm s (p + 1) (q - (p + 1))) m1)
theorem xq_bad (hp : p ≤ n) (h1 : xdig (s p) = false) (h2 : (decide (s p = 110) || xvar (s p)) = false) (h3 : s p ≠ 40) (h4 : s p ≠ 73) (h5 : s p ≠ 76) : xq s n m p k true = (false, p) := by
  by_cases c : k.length = m
  · rw [xq_of hp h1 h2 c]
    unfold xof
    rw [decide_eq_false h4, decide_eq_false h5]
    rfl
  · refine xq_on hp h1 h2 c ?_
    unfold xop
    rw [decide_eq_false h3, decide_eq_false h4, decide_eq_false h5]
    rfl
theorem RT_one {ev : xEv → Option Int32} {y z : Int32} {q : Nat} {r : Int32 × pd_V} (ha : ker a) (hr : r.1 = 1) (hq : xpl s p = (true, q)) (hn : n ≤ 160) (h0 : ∀ j, n ≤ j → s j = 0) (hp : p ≤ n) (hA : Ac q r.2) (hX : XF a i0 v r.2) (hI : IT a i0 [(y, z)] r.2) (h6 : r.2 1 6 = v 1 6 ||| xnm s p (q - p)) (hv : ∀ e, ev e = some (xpv s e p)) (hf : ∀ e st, pf1 e (y, z) st = some (xpv s e p :: st)) (hz : y = 97 → 0 ≤ z.toInt ∧ z.toInt ≤ 7) : RT s n m k a i0 p v r := by
  have g := xpl_g hq
  have qn := xrg_n h0 hp g.1
  refine Or.inr ⟨hr, q, [(y, z)], ev, xq_pl hn h0 hp hq, ⟨g.2, qn, hA, hX, hI, by show 1 ≤ q - p; omega, h6⟩, fun e st => ?_, fun e K sum sg => ?_, fun e st B hB => ?_⟩
  · show (pf1 e (y, z) st).bind (pfx e []) = _
    rw [hf, hv]
    rfl
  · rw [hv, xv_pl hn h0 hp hq]
    rfl
  · refine ⟨fun h => by rw [hf] at h; exact (nomatch h), hz, fun st' h => ?_⟩
    rw [hf] at h
    have h2 := Option.some.inj h
    rw [← h2]
    exact ⟨by show st.length + 1 ≤ B; omega, trivial⟩
end RTT
