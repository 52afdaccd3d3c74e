/-! the memory: what lies at which address behind the constructors -/
abbrev pd_V : Type := Nat → Nat → Int32
abbrev pd_N : Nat := 223
def pd_w (v : pd_V) (a k : Nat) (x : Int32) : pd_V := va_up v a (upd (v a) k x)
def kerOf (x : Int32) : Nat := bif decide (x = 0) then 3 else 88
def kerNo (a : Nat) : Int32 := bif Nat.beq a 3 then 0 else 1
def F_De (r : Nat → Int32) : List Value := [.ref 1, .ref (kerOf (r 1)), .int (r 2), .int (r 3), .ref 172, .int (r 5), .ref 173, .ref 186]
def F_Re (r : Nat → Int32) : List Value := [.ref 2, .int (r 1), .int (r 2), .ref (kerOf (r 3)), .ref 87, .int (r 5), .int (r 6)]
def F_Ke (a : Nat) (r : Nat → Int32) : List Value := [.ref (a + 1), .ref (a + 2), .ref (a + 3), .int (r 3), .int (r 4), .int (r 5)]
def F_St (r : Nat → Int32) : List Value := [.int (r 0), .int (r 1), .int (r 2), .int (r 3), .int (r 4), .int (r 5), .int (r 6), .int (r 7), .int (r 8), .int (r 9), .int (r 10)]
def F_To (r : Nat → Int32) : List Value := [.ref 174, .int (r 1), .int (r 2), .int (r 3), .int (r 4), .int (r 5), .int (r 6), .ref 184, .ref 185]
def F_Cr (a : Nat) (r : Nat → Int32) : List Value := [.ref (a + 1), .ref (a + 2), .ref (a + 3), .ref (a + 4), .ref (a + 5), .ref (a + 6), .ref (a + 7), .ref (a + 8), .ref (a + 9), .int (r 9), .int (r 10)]
def F_Ap (r : Nat → Int32) : List Value := [.ref 187, .int (r 1), .ref 197, .int (r 3)]
def F_Mo (r : Nat → Int32) : List Value := [.int (r 0), .ref 199, .int (r 2), .ref 200, .int (r 4), .int (r 5), .int (r 6), .int (r 7), .ref 201, .ref 202, .int (r 10), .ref 203, .int (r 12), .ref 204, .ref 205, .ref 206, .ref 207, .ref 208, .ref 209, .int (r 19), .int (r 20), .int (r 21), .int (r 22), .int (r 23), .int (r 24), .int (r 25), .int (r 26), .int (r 27), .int (r 28), .ref 210, .ref 211, .ref 212, .ref 213, .ref 214, .ref 215, .int (r 35), .int (r 36), .ref 216, .ref 217, .ref 218, .ref 219, .ref 220, .ref 221]
def pd_c (g : Nat → Int64) (a : Nat) (r : Nat → Int32) : pm_E :=
  bif Nat.blt a 7 then (bif Nat.blt a 3 then (bif Nat.blt a 1 then .inr (0, F_De r) else (bif Nat.blt a 2 then .inr (1, F_Re r) else .inl (0, 160, .inl r))) else (bif Nat.blt a 5 then (bif Nat.blt a 4 then .inr (2, F_Ke 3 r) else .inl (3, 80, .inr (.inr (.inr (.inr (ct_f 4)))))) else (bif Nat.blt a 6 then .inl (0, 160, .inl r) else .inl (0, 160, .inl r))))
  else bif Nat.blt a 87 then .inr (3, F_St r)
  else bif Nat.blt a 92 then (bif Nat.blt a 89 then (bif Nat.blt a 88 then .inl (0, 4, .inl r) else .inr (2, F_Ke 88 r)) else (bif Nat.blt a 90 then .inl (3, 80, .inr (.inr (.inr (.inr (ct_f 89))))) else (bif Nat.blt a 91 then .inl (0, 160, .inl r) else .inl (0, 160, .inl r))))
  else bif Nat.blt a 172 then .inr (3, F_St r)
  else bif Nat.blt a 223 then (bif Nat.blt a 197 then (bif Nat.blt a 184 then (bif Nat.blt a 178 then (bif Nat.blt a 175 then (bif Nat.blt a 173 then .inl (0, 16, .inl r) else (bif Nat.blt a 174 then .inr (4, F_To r) else .inr (5, F_Cr 174 r))) else (bif Nat.blt a 176 then .inl (0, 16, .inl r) else (bif Nat.blt a 177 then .inl (0, 64, .inl r) else .inl (0, 64, .inl r)))) else (bif Nat.blt a 181 then (bif Nat.blt a 179 then .inl (0, 160, .inl r) else (bif Nat.blt a 180 then .inl (0, 8, .inl r) else .inl (0, 8, .inl r))) else (bif Nat.blt a 182 then .inl (0, 8, .inl r) else (bif Nat.blt a 183 then .inl (0, 8, .inl r) else .inl (0, 8, .inl r))))) else (bif Nat.blt a 190 then (bif Nat.blt a 187 then (bif Nat.blt a 185 then .inl (0, 4, .inl r) else (bif Nat.blt a 186 then .inl (0, 4, .inl r) else .inr (6, F_Ap r))) else (bif Nat.blt a 188 then .inr (5, F_Cr 187 r) else (bif Nat.blt a 189 then .inl (0, 16, .inl r) else .inl (0, 64, .inl r)))) else (bif Nat.blt a 193 then (bif Nat.blt a 191 then .inl (0, 64, .inl r) else (bif Nat.blt a 192 then .inl (0, 160, .inl r) else .inl (0, 8, .inl r))) else (bif Nat.blt a 195 then (bif Nat.blt a 194 then .inl (0, 8, .inl r) else .inl (0, 8, .inl r)) else (bif Nat.blt a 196 then .inl (0, 8, .inl r) else .inl (0, 8, .inl r)))))) else (bif Nat.blt a 210 then (bif Nat.blt a 203 then (bif Nat.blt a 200 then (bif Nat.blt a 198 then .inl (0, 8, .inl r) else (bif Nat.blt a 199 then .inr (7, F_Mo r) else .inl (0, 160, .inl r))) else (bif Nat.blt a 201 then .inl (0, 160, .inl r) else (bif Nat.blt a 202 then .inl (2, 8, .inl r) else .inl (2, 8, .inl r)))) else (bif Nat.blt a 206 then (bif Nat.blt a 204 then .inl (0, 16, .inl r) else (bif Nat.blt a 205 then .inl (0, 128, .inl r) else .inl (0, 128, .inl r))) else (bif Nat.blt a 208 then (bif Nat.blt a 207 then .inl (0, 320, .inl r) else .inl (0, 16, .inl r)) else (bif Nat.blt a 209 then .inl (0, 16, .inl r) else .inl (2, 16, .inl r))))) else (bif Nat.blt a 216 then (bif Nat.blt a 213 then (bif Nat.blt a 211 then .inl (0, 8, .inl r) else (bif Nat.blt a 212 then .inl (0, 8, .inl r) else .inl (0, 40, .inl r))) else (bif Nat.blt a 214 then .inl (0, 8, .inl r) else (bif Nat.blt a 215 then .inl (0, 8, .inl r) else .inl (2, 8, .inl r)))) else (bif Nat.blt a 219 then (bif Nat.blt a 217 then .inl (0, 5, .inl r) else (bif Nat.blt a 218 then .inl (0, 5, .inl r) else .inl (0, 5, .inl r))) else (bif Nat.blt a 221 then (bif Nat.blt a 220 then .inl (0, 6, .inl r) else .inl (0, 6, .inl r)) else (bif Nat.blt a 222 then .inl (0, 6, .inl r) else .inl (1, 1, .inr (.inl g))))))))
  else ct_h a
def pd_H (g : Nat → Int64) (v : pd_V) : Nat → pm_E := fun a => pd_c g a (v a)
def pd_ai (g : Nat → Int64) (a n : Nat) : Prop := ∀ r, pd_c g a r = .inl (0, n, .inl r)
def ker (a : Nat) : Prop := a = 3 ∨ a = 88
def crw (a : Nat) : Prop := a = 174 ∨ a = 187
def stp (a : Nat) : Prop := (7 ≤ a ∧ a < 87) ∨ (92 ≤ a ∧ a < 172)
theorem crw_174 : crw 174 := Or.inl rfl
theorem crw_187 : crw 187 := Or.inr rfl
theorem ker_of (x : Int32) : ker (kerOf x) := by
  unfold kerOf
  cases decide (x = 0)
  · exact Or.inr rfl
  · exact Or.inl rfl
theorem kerOf_no {a : Nat} (h : ker a) : kerOf (kerNo a) = a := by
  rcases h with rfl | rfl <;> rfl
theorem pd_bt {a k : Nat} (h : a < k) : Nat.blt a k = true := by rw [Nat.blt_eq]; exact h
theorem pd_bf {a k : Nat} (h : k ≤ a) : Nat.blt a k = false := by
  cases q : Nat.blt a k
  · rfl
  · rw [Nat.blt_eq] at q; omega
theorem pm_in_lt {i : Int32} {n : Nat} (h : pm_in i n = true) : i.toNatClampNeg < n := by
  simp only [pm_in, Bool.and_eq_true, Nat.blt_eq] at h
  exact h.2
theorem stp_of {a : Nat} {i : Int32} (h : ker a) (hi : pm_in i 80 = true) : stp (a + 4 + i.toNatClampNeg) := by
  have := pm_in_lt hi
  unfold stp
  rcases h with rfl | rfl
  · left; omega
  · right; omega
section MEM
variable {g : Nat → Int64} {a : Nat}
theorem c_st (h : stp a) : ∀ r, pd_c g a r = .inr (3, F_St r) := by
  intro r
  unfold pd_c
  rcases h with ⟨h1, h2⟩ | ⟨h1, h2⟩
  · rw [pd_bf h1, pd_bt h2]; rfl
  · rw [pd_bf (show 7 ≤ a by omega), pd_bf (show 87 ≤ a by omega), pd_bf h1, pd_bt h2]; rfl
theorem c_ke (h : ker a) : ∀ r, pd_c g a r = .inr (2, F_Ke a r) := by
  intro r
  rcases h with rfl | rfl <;> rfl
theorem c_ke1 (h : ker a) : ∀ r, pd_c g (a + 1) r = .inl (3, 80, .inr (.inr (.inr (.inr (ct_f (a + 1)))))) := by
  intro r
  rcases h with rfl | rfl <;> rfl
theorem c_ke2 (h : ker a) : ∀ r, pd_c g (a + 2) r = .inl (0, 160, .inl r) := by
  intro r
  rcases h with rfl | rfl <;> rfl
theorem c_ke3 (h : ker a) : ∀ r, pd_c g (a + 3) r = .inl (0, 160, .inl r) := by
  intro r
  rcases h with rfl | rfl <;> rfl
theorem c_cr (h : crw a) : ∀ r, pd_c g a r = .inr (5, F_Cr a r) := by
  intro r
  rcases h with rfl | rfl <;> rfl
theorem c_cr1 (h : crw a) : ∀ r, pd_c g (a + 1) r = .inl (0, 16, .inl r) := by
  intro r
  rcases h with rfl | rfl <;> rfl
theorem c_cr2 (h : crw a) : ∀ r, pd_c g (a + 2) r = .inl (0, 64, .inl r) := by
  intro r
  rcases h with rfl | rfl <;> rfl
theorem c_cr3 (h : crw a) : ∀ r, pd_c g (a + 3) r = .inl (0, 64, .inl r) := by
  intro r
  rcases h with rfl | rfl <;> rfl
theorem c_cr4 (h : crw a) : ∀ r, pd_c g (a + 4) r = .inl (0, 160, .inl r) := by
  intro r
  rcases h with rfl | rfl <;> rfl
theorem c_cr5 (h : crw a) : ∀ r, pd_c g (a + 5) r = .inl (0, 8, .inl r) := by
  intro r
  rcases h with rfl | rfl <;> rfl
theorem c_cr6 (h : crw a) : ∀ r, pd_c g (a + 6) r = .inl (0, 8, .inl r) := by
  intro r
  rcases h with rfl | rfl <;> rfl
theorem c_cr7 (h : crw a) : ∀ r, pd_c g (a + 7) r = .inl (0, 8, .inl r) := by
  intro r
  rcases h with rfl | rfl <;> rfl
theorem c_cr8 (h : crw a) : ∀ r, pd_c g (a + 8) r = .inl (0, 8, .inl r) := by
  intro r
  rcases h with rfl | rfl <;> rfl
theorem c_cr9 (h : crw a) : ∀ r, pd_c g (a + 9) r = .inl (0, 8, .inl r) := by
  intro r
  rcases h with rfl | rfl <;> rfl
end MEM
theorem hs_De {r : Nat → Int32} {u : Nat} (h : ker u) : (F_De r).set 1 (.ref u) = F_De (upd r 1 (kerNo u)) := by
  have e := kerOf_no h
  show _ = F_De (upd r 1 (kerNo u))
  unfold F_De
  rw [show upd r 1 (kerNo u) 1 = kerNo u from if_pos rfl, e]
  rfl
theorem hs_Re {r : Nat → Int32} {u : Nat} (h : ker u) : (F_Re r).set 3 (.ref u) = F_Re (upd r 3 (kerNo u)) := by
  have e := kerOf_no h
  show _ = F_Re (upd r 3 (kerNo u))
  unfold F_Re
  rw [show upd r 3 (kerNo u) 3 = kerNo u from if_pos rfl, e]
  rfl
set_option maxRecDepth 100000 in
theorem ct_rows : ((List.range 80).all (fun j => decide (ct_f 4 j = some (7 + j))) && (List.range 80).all (fun j => decide (ct_f 89 j = some (92 + j)))) = true := by decide +kernel
theorem ct_rw {a j : Nat} (h : ker a) (hj : j < 80) : ct_f (a + 1) j = some (a + 4 + j) := by
  have h9 := ct_rows
  simp only [Bool.and_eq_true, List.all_eq_true, List.mem_range, decide_eq_true_eq] at h9
  rcases h with rfl | rfl
  · exact h9.1 j hj
  · exact h9.2 j hj
