/-! from call to call -/
section JS
variable {w : Nat} {v u q : pd_V} {b b' : Int}
theorem J_C (h : J b v) (e : CF v q) : J b q := by
  refine ⟨e.2.2 h.1, JM_e h.2.1 (fun a ha => e.1 a (by omega)) (fun k _ => by rw [e.1 198 (by omega)]), ?_⟩
  rw [e.2.1, e.1 198 (by omega)]
  exact h.2.2
theorem J_M (h : J b v) (f : FM v q) (j : JM b' q) : J b' q := by
  refine ⟨?_, j, ?_⟩
  · have := h.1
    unfold KO at *
    rw [f.1 1 (by decide), f.1 3 (by decide), f.1 88 (by decide)]
    exact this
  · rw [f.1 1 (by decide), f.2]
    exact h.2.2
theorem JM_up (h : JM b v) : JM (b + 500) v := ⟨h.1, h.2.1, h.2.2.1, h.2.2.2.1, h.2.2.2.2.1, h.2.2.2.2.2.1, by have := h.2.2.2.2.2.2; omega⟩
theorem J_up (h : J b v) : J (b + 500) v := ⟨h.1, JM_up h.2.1, h.2.2⟩
theorem J_cl (h : J b v) : J b (pd_w (pd_w (pd_w v 1 1 (0 : Int32)) 198 0 (0 : Int32)) 198 2 (0 : Int32)) := by
  refine ⟨?_, ?_, ?_⟩
  · refine KO_l (len := 0) h.1 (by omega) ?_ ?_ ?_ ?_
    · rw [pd_w_ne (by decide), pd_w_ne (by decide), pd_w_self]; rfl
    · rw [pd_w_ne (by decide), pd_w_ne (by decide), pd_w_nk (by decide)]
    · rw [pd_wa (by decide), pd_wa (by decide), pd_wa (by decide)]
    · rw [pd_wa (by decide), pd_wa (by decide), pd_wa (by decide)]
  · refine JM_d (d := 0) h.2.1 (by omega) ?_ (fun a ha => ?_) (fun k hk => ?_)
    · rw [pd_w_self]; rfl
    · rw [pd_wa (by omega), pd_wa (by omega), pd_wa (by omega)]
    · rw [pd_w_nk (by omega), pd_w_nk (by omega), pd_w_ne (by decide)]
  · rw [pd_w_ne (by decide), pd_w_ne (by decide), pd_w_self, pd_w_self]
end JS
