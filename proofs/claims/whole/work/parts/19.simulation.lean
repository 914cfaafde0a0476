/-! THE SIMULATION, call by call -/
section SIM
variable {n : Nat} {D mny : Nat → Int32} {N f g : Nat → Nat → Int32} {rk rf rg rh : Nat → Nat → Int32} {I1 : Nat → Int32} {F : Nat → Nat → Int32}
/-- a call that changes nothing but 'thrown' -/
theorem REL.idle (h : REL n D mny N f g rk rf rg rh I1 F) (x : Int32) : REL (n + 1) D mny N f g rk rf rg rh (upd I1 17 x) F := by
  obtain ⟨t, c, h1, h2, h3, h4, h5, h6, h7, h8, h9, h10⟩ := h
  exact ⟨t, c, by omega, by omega, h3, h4, h5, h6, h7, h8, h9, h10⟩
theorem sim_deposit (h : REL n D mny N f g rk rf rg rh I1 F) {i : Nat} (hi : i < 6) (x : Int32) : F 2 i = mny i ∧ REL (n + 1) D (upd mny i (mny i + x)) N f g rk rf rg rh (upd I1 17 0) (updA F 2 (upd (F 2) i (F 2 i + x))) := by
  obtain ⟨t, c, h1, h2, h3, h4, h5, h6, h7, h8, h9, h10⟩ := h
  refine ⟨h8 i hi, t, c, by omega, by omega, h3, h4, h5, h6, h7, fun k hk => ?_, h9, h10⟩
  show upd (F 2) i (F 2 i + x) k = upd mny i (mny i + x) k
  rw [h8 i hi]
  by_cases hk2 : k = i
  · simp only [upd]; rw [if_pos hk2, if_pos hk2]
  · simp only [upd]; rw [if_neg hk2, if_neg hk2, h8 k hk]
theorem sim_cnt {f1 f2 : Nat → Int32} {j : Nat} (h : ∀ k, k < 6 → f2 (6 * j + k) = f1 k) : ∀ i, i ≤ 6 → mCnt f2 j i = sCnt f1 i
  | 0, _ => rfl
  | i + 1, hi => by rw [mCnt, sCnt, sim_cnt h i (by omega), h i (by omega)]
end SIM
