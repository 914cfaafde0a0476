/-! WHAT HOLDS BETWEEN THE REGISTRY AND THE LAW'S OWN ROWS -/
def Z6 (f : Nat → Int32) : Prop := ∀ k, k < 6 → f k = 0
def B6 (f : Nat → Int32) : Prop := (∀ k, k < 6 → f k = 0 ∨ ∃ a : Nat, 10 ≤ a ∧ a < 400 ∧ f k = nI a) ∧ ∃ k, k < 6 ∧ ¬ f k = 0
/-- one name on the day d: free; in an auction; leased, in grace, in redemption; frozen behind an auction; frozen behind a lease -/
def NI (d : Nat) (N f : Nat → Int32) : Prop :=
  (N 0 = 0 ∧ N 1 = -1 ∧ Z6 f) ∨
  (N 0 = 1 ∧ N 1 = -1 ∧ B6 f ∧ ∃ e : Nat, d < e ∧ e ≤ d + 5 ∧ N 2 = nI e) ∨
  (∃ s e o : Nat, 2 ≤ s ∧ s ≤ 4 ∧ o < 6 ∧ d + 20 < e + 10 * s ∧ e ≤ d + 600 ∧ N 0 = nI s ∧ N 1 = nI o ∧ N 3 = nI e ∧ Z6 f) ∨
  (∃ q : Nat, q < 6 ∧ N 0 = 5 ∧ N 6 = 1 ∧ N 1 = -1 ∧ N 7 = nI q ∧ Z6 f) ∨
  (∃ s e o q z : Nat, 2 ≤ s ∧ s ≤ 3 ∧ o < 6 ∧ q < 6 ∧ ¬ q = o ∧ z ≤ d ∧ z + 20 < e + 10 * s ∧ e ≤ z + 600 ∧ N 0 = 5 ∧ N 6 = nI s ∧ N 1 = nI o ∧ N 7 = nI q ∧ N 8 = nI z ∧ N 3 = nI e ∧ Z6 f)
/-- what the law's rows t and c tell of a name -/
def LI (t c : Nat → Int32) (j : Nat) (N : Nat → Int32) : Prop :=
  t j = N 0 ∧ t (16 + j) = N 1 ∧ t (32 + j) = sDay N ∧ (¬ sRec N = 0 → c j = N 4 ∧ c (16 + j) = N 5) ∧ (N 0 = 5 → c (32 + j) = if N 6 = 1 then 1 else 0) ∧ ∃ r : Nat, r < 1000 ∧ N 4 = nI r
/-- what the law's row f tells of the resolver 0 -/
def QI (d : Nat) (k f g h F : Nat → Int32) (j : Nat) : Prop :=
  (k j = 0 ∧ F j = -1) ∨ (k j = 1 ∧ F (16 + j) = f j ∧ F (32 + j) = g j ∧ ∃ z : Nat, z ≤ d ∧ h j = nI z ∧ F j = nI z)
def psum (p : Nat) (m : Nat → Nat) : Nat → Nat
  | 0 => p
  | i + 1 => psum p m i + m i
/-- all that was deposited is funds or takings -/
def MI (a : Nat) (D mny : Nat → Int32) : Prop := ∃ (m : Nat → Nat) (p : Nat), D 4 = nI p ∧ (∀ k, k < 6 → mny k = nI (m k)) ∧ psum p m 6 = a
def INV (d a : Nat) (D mny : Nat → Int32) (N f : Nat → Nat → Int32) (rk rf rg rh : Nat → Nat → Int32) (t c F G : Nat → Int32) : Prop :=
  D 3 = nI d ∧ G 0 = nI d ∧ MI a D mny ∧ G 1 = nI a ∧ (∀ j, j < 16 → NI d (N j) (f j) ∧ LI t c j (N j)) ∧ (∀ j, j < 16 → QI d (rk 0) (rf 0) (rg 0) (rh 0) F j) ∧ G 2 = sKept (rk 0) 16
theorem nI_inj {a b : Nat} (ha : a < 2 ^ 31) (hb : b < 2 ^ 31) (h : nI a = nI b) : a = b := (nI_eq ha hb).mp h
theorem nI_nm1 {a : Nat} (h : a < 2 ^ 31) : ¬ nI a = -1 := by
  intro e
  have h1 := nI_toInt h
  rw [e] at h1
  have h2 : ((-1 : Int32)).toInt = -1 := rfl
  omega
theorem upd_at (f : Nat → Int32) (k : Nat) (x : Int32) : upd f k x k = x := if_pos rfl
theorem upd_no {f : Nat → Int32} {k j : Nat} {x : Int32} (h : ¬ j = k) : upd f k x j = f j := if_neg h
theorem updA_at (F : Nat → Nat → Int32) (k : Nat) (g : Nat → Int32) : updA F k g k = g := if_pos rfl
theorem updA_no {F : Nat → Nat → Int32} {k j : Nat} {g : Nat → Int32} (h : ¬ j = k) : updA F k g j = F j := if_neg h
section NIS
variable {d : Nat} {N f : Nat → Int32}
theorem NI.st (h : NI d N f) : ∃ s : Nat, s < 6 ∧ N 0 = nI s := by
  rcases h with ⟨h, -⟩ | ⟨h, -⟩ | ⟨s, e, o, h1, h2, -, -, -, h, -⟩ | ⟨q, -, h, -⟩ | ⟨s, e, o, q, z, -, -, -, -, -, -, -, -, h, -⟩
  · exact ⟨0, by omega, h⟩
  · exact ⟨1, by omega, h⟩
  · exact ⟨s, by omega, h⟩
  · exact ⟨5, by omega, h⟩
  · exact ⟨5, by omega, h⟩
theorem NI.at0 (h : NI d N f) (h0 : N 0 = 0) : N 1 = -1 ∧ Z6 f := by
  rcases h with ⟨-, h⟩ | ⟨h, -⟩ | ⟨s, e, o, h1, h2, -, -, -, h, -⟩ | ⟨q, -, h, -⟩ | ⟨s, e, o, q, z, -, -, -, -, -, -, -, -, h, -⟩
  · exact h
  · exact absurd (h0.symm.trans h) (by decide)
  · have := nI_inj (a := 0) (by omega) (by omega) (h0.symm.trans h); omega
  · exact absurd (h0.symm.trans h) (by decide)
  · exact absurd (h0.symm.trans h) (by decide)
theorem NI.at1 (h : NI d N f) (h0 : N 0 = 1) : N 1 = -1 ∧ B6 f ∧ ∃ e : Nat, d < e ∧ e ≤ d + 5 ∧ N 2 = nI e := by
  rcases h with ⟨h, -⟩ | ⟨-, h⟩ | ⟨s, e, o, h1, h2, -, -, -, h, -⟩ | ⟨q, -, h, -⟩ | ⟨s, e, o, q, z, -, -, -, -, -, -, -, -, h, -⟩
  · exact absurd (h0.symm.trans h) (by decide)
  · exact h
  · have := nI_inj (a := 1) (by omega) (by omega) (h0.symm.trans h); omega
  · exact absurd (h0.symm.trans h) (by decide)
  · exact absurd (h0.symm.trans h) (by decide)
theorem NI.atH (h : NI d N f) {s : Nat} (h0 : N 0 = nI s) (h2 : 2 ≤ s) (h4 : s ≤ 4) : ∃ e o : Nat, o < 6 ∧ d + 20 < e + 10 * s ∧ e ≤ d + 600 ∧ N 1 = nI o ∧ N 3 = nI e ∧ Z6 f := by
  rcases h with ⟨h, -⟩ | ⟨h, -⟩ | ⟨s2, e, o, a1, a2, a3, a4, a5, h, a6, a7, a8⟩ | ⟨q, -, h, -⟩ | ⟨s2, e, o, q, z, -, -, -, -, -, -, -, -, h, -⟩
  · have := nI_inj (b := 0) (by omega) (by omega) (h0.symm.trans h); omega
  · have := nI_inj (b := 1) (by omega) (by omega) (h0.symm.trans h); omega
  · have := nI_inj (by omega) (by omega) (h0.symm.trans h)
    subst this
    exact ⟨e, o, a3, a4, a5, a6, a7, a8⟩
  · have := nI_inj (b := 5) (by omega) (by omega) (h0.symm.trans h); omega
  · have := nI_inj (b := 5) (by omega) (by omega) (h0.symm.trans h); omega
theorem NI.at5 (h : NI d N f) (h0 : N 0 = 5) : Z6 f ∧ ((N 6 = 1 ∧ N 1 = -1 ∧ ∃ q : Nat, q < 6 ∧ N 7 = nI q) ∨ ∃ s e o q z : Nat, 2 ≤ s ∧ s ≤ 3 ∧ o < 6 ∧ q < 6 ∧ ¬ q = o ∧ z ≤ d ∧ z + 20 < e + 10 * s ∧ e ≤ z + 600 ∧ N 6 = nI s ∧ N 1 = nI o ∧ N 7 = nI q ∧ N 8 = nI z ∧ N 3 = nI e) := by
  rcases h with ⟨h, -⟩ | ⟨h, -⟩ | ⟨s, e, o, h1, h2, -, -, -, h, -⟩ | ⟨q, b1, h, b2, b3, b4, b5⟩ | ⟨s, e, o, q, z, a1, a2, a3, a4, a5, a6, a7, a8, h, b1, b2, b3, b4, b5, b6⟩
  · exact absurd (h0.symm.trans h) (by decide)
  · exact absurd (h0.symm.trans h) (by decide)
  · have := nI_inj (a := 5) (by omega) (by omega) (h0.symm.trans h); omega
  · exact ⟨b5, Or.inl ⟨b2, b3, q, b1, b4⟩⟩
  · exact ⟨b6, Or.inr ⟨s, e, o, q, z, a1, a2, a3, a4, a5, a6, a7, a8, b1, b2, b3, b4, b5⟩⟩
theorem NI.mk0 (h0 : N 0 = 0) (h1 : N 1 = -1) (hz : Z6 f) : NI d N f := Or.inl ⟨h0, h1, hz⟩
theorem NI.mk1 (h0 : N 0 = 1) (h1 : N 1 = -1) (hb : B6 f) {e : Nat} (h2 : d < e) (h3 : e ≤ d + 5) (h4 : N 2 = nI e) : NI d N f := Or.inr (Or.inl ⟨h0, h1, hb, e, h2, h3, h4⟩)
theorem NI.mkH {s e o : Nat} (h2 : 2 ≤ s) (h4 : s ≤ 4) (ho : o < 6) (h5 : d + 20 < e + 10 * s) (h6 : e ≤ d + 600) (h0 : N 0 = nI s) (h1 : N 1 = nI o) (h3 : N 3 = nI e) (hz : Z6 f) : NI d N f := Or.inr (Or.inr (Or.inl ⟨s, e, o, h2, h4, ho, h5, h6, h0, h1, h3, hz⟩))
theorem NI.mkA {q : Nat} (hq : q < 6) (h0 : N 0 = 5) (h6 : N 6 = 1) (h1 : N 1 = -1) (h7 : N 7 = nI q) (hz : Z6 f) : NI d N f := Or.inr (Or.inr (Or.inr (Or.inl ⟨q, hq, h0, h6, h1, h7, hz⟩)))
theorem NI.mkF {s e o q z : Nat} (h2 : 2 ≤ s) (h3 : s ≤ 3) (ho : o < 6) (hq : q < 6) (hne : ¬ q = o) (hz1 : z ≤ d) (hz2 : z + 20 < e + 10 * s) (he : e ≤ z + 600) (h0 : N 0 = 5) (h6 : N 6 = nI s) (h1 : N 1 = nI o) (h7 : N 7 = nI q) (h8 : N 8 = nI z) (h9 : N 3 = nI e) (hz : Z6 f) : NI d N f :=
  Or.inr (Or.inr (Or.inr (Or.inr ⟨s, e, o, q, z, h2, h3, ho, hq, hne, hz1, hz2, he, h0, h6, h1, h7, h8, h9, hz⟩)))
theorem sDay_0 (h0 : N 0 = 0) : sDay N = -1 := by simp [sDay, h0]
theorem sDay_1 (h0 : N 0 = 1) : sDay N = N 2 := by simp [sDay, h0]
theorem sDay_5 (h0 : N 0 = 5) : sDay N = -1 := by simp [sDay, h0]
theorem sDay_H {s e : Nat} (h2 : 2 ≤ s) (h4 : s ≤ 4) (h0 : N 0 = nI s) (h3 : N 3 = nI e) : sDay N = nI (e + 10 * s - 20) := by
  rcases (show s = 2 ∨ s = 3 ∨ s = 4 by omega) with h | h | h
  · subst h
    have h0 : N 0 = 2 := h0
    rw [show e + 10 * 2 - 20 = e by omega, ← h3]
    simp [sDay, h0]
  · subst h
    have h0 : N 0 = 3 := h0
    have e1 : sDay N = N 3 + 10 := by simp [sDay, h0]
    rw [e1, h3, show e + 10 * 3 - 20 = e + 10 by omega]
    exact nI_add e 10
  · subst h
    have h0 : N 0 = 4 := h0
    have e1 : sDay N = N 3 + 10 + 10 := by simp [sDay, h0]
    rw [e1, h3, show e + 10 * 4 - 20 = e + 10 + 10 by omega]
    exact (congrArg (· + (10 : Int32)) (nI_add e 10)).trans (nI_add (e + 10) 10)
theorem sRec_0 {s : Nat} (hs : s < 6) (h0 : N 0 = nI s) (h : s = 0 ∨ s = 1 ∨ s = 4) : sRec N = 0 := by
  rcases h with h | h | h
  · subst h; have h0 : N 0 = 0 := h0; simp [sRec, sHeld, bI, h0]
  · subst h; have h0 : N 0 = 1 := h0; simp [sRec, sHeld, bI, h0]
  · subst h; have h0 : N 0 = 4 := h0; simp [sRec, sHeld, bI, h0]
theorem sRec_2 (h0 : N 0 = 2) : sRec N = 1 := by simp [sRec, sHeld, bI, h0]
theorem sRec_3 (h0 : N 0 = 3) : sRec N = 1 := by simp [sRec, sHeld, bI, h0]
theorem sRec_5a (h0 : N 0 = 5) (h6 : N 6 = 1) : sRec N = 0 := by simp [sRec, sHeld, bI, h0, h6]
theorem sRec_5b (h0 : N 0 = 5) {s : Nat} (h2 : 2 ≤ s) (h3 : s ≤ 3) (h6 : N 6 = nI s) : sRec N = 1 := by
  rcases (show s = 2 ∨ s = 3 by omega) with h | h
  · subst h; have h6 : N 6 = 2 := h6; simp [sRec, sHeld, bI, h0, h6]
  · subst h; have h6 : N 6 = 3 := h6; simp [sRec, sHeld, bI, h0, h6]
end NIS
/-- the number of bids -/
def cnt (f : Nat → Int32) : Nat → Nat
  | 0 => 0
  | i + 1 => cnt f i + (if 0 < f i then 1 else 0)
theorem sCnt_n (f : Nat → Int32) : ∀ i, sCnt f i = nI (cnt f i)
  | 0 => rfl
  | i + 1 => by
    rw [sCnt, cnt, sCnt_n f i]
    by_cases h : 0 < f i
    · rw [if_pos h, if_pos h]; exact nI_add (cnt f i) 1
    · rw [if_neg h, if_neg h]; exact Int32.add_zero _
theorem cnt_le (f : Nat → Int32) : ∀ i, cnt f i ≤ i
  | 0 => Nat.le_refl 0
  | i + 1 => by
    have := cnt_le f i
    rw [cnt]
    split <;> omega
theorem cnt_0 {f : Nat → Int32} : ∀ {i}, (∀ k, k < i → f k = 0) → cnt f i = 0
  | 0, _ => rfl
  | i + 1, h => by
    rw [cnt, cnt_0 (fun k hk => h k (by omega)), h i (by omega), if_neg (by decide)]
theorem cnt_pos {f : Nat → Int32} : ∀ {i k}, k < i → 0 < f k → 0 < cnt f i
  | 0, k, h, _ => absurd h (by omega)
  | i + 1, k, h, hk => by
    rw [cnt]
    rcases Nat.lt_or_ge k i with q | q
    · have := cnt_pos q hk; omega
    · have : k = i := by omega
      subst this
      rw [if_pos hk]; omega
theorem cnt_upd {f : Nat → Int32} {k : Nat} {x : Int32} (hx : 0 < x) : ∀ i, cnt f i ≤ cnt (upd f k x) i ∧ cnt (upd f k x) i ≤ cnt f i + 1 ∧ (i ≤ k → cnt (upd f k x) i = cnt f i)
  | 0 => ⟨Nat.le_refl 0, by simp [cnt], fun _ => rfl⟩
  | i + 1 => by
    obtain ⟨h1, h2, h3⟩ := cnt_upd (f := f) (k := k) hx i
    by_cases h : i = k
    · subst h
      have h4 := h3 (Nat.le_refl i)
      rw [cnt, cnt, upd_at, if_pos hx, h4]
      refine ⟨?_, ?_, fun z => by omega⟩
      · split <;> omega
      · omega
    · rw [cnt, cnt, upd_no h]
      refine ⟨by omega, by omega, fun z => ?_⟩
      rw [h3 (by omega)]
theorem nI_0lt {a : Nat} (h0 : 0 < a) (h : a < 2 ^ 31) : 0 < nI a := nI_lt (a := 0) h0 h
theorem B6.cpos {f : Nat → Int32} (h : B6 f) : 0 < cnt f 6 := by
  obtain ⟨h1, k, hk, h2⟩ := h
  rcases h1 k hk with e | ⟨a, ha, ha2, e⟩
  · exact absurd e h2
  · exact cnt_pos hk (by rw [e]; exact nI_0lt (by omega) (by omega))
section NAMES9
variable {d j : Nat} {N f t c : Nat → Int32}
theorem c0_of {s : Nat} (h2 : 2 ≤ s) (h3 : s ≤ 3) {x : Int32} (hx : x = nI s) : ¬ x = 1 := by
  intro h
  have := nI_inj (a := s) (b := 1) (by omega) (by omega) (hx.symm.trans h)
  omega
theorem own9 (h : NI d N f) (hl : LI t c j N) : N 1 < 0 ↔ (N 0 ≤ 1 ∨ (¬ N 0 < 5 ∧ ¬ c (32 + j) = 0)) := by
  obtain ⟨-, -, -, -, hc, -⟩ := hl
  rcases h with ⟨h0, h1, -⟩ | ⟨h0, h1, -⟩ | ⟨s, e, o, h2, h4, ho, -, -, h0, h1, -⟩ | ⟨q, -, h0, h6, h1, -⟩ | ⟨s, e, o, q, z, h2, h3, ho, -, -, -, -, -, h0, h6, h1, -⟩
  · rw [h0, h1]; exact iff_of_true (by decide) (Or.inl (by decide))
  · rw [h0, h1]; exact iff_of_true (by decide) (Or.inl (by decide))
  · rw [h0, h1]
    have a1 : ¬ nI o < 0 := nI_pos (by omega)
    have a2 : ¬ nI s ≤ 1 := nI_ge (a := 1) (by omega) (by omega)
    have a3 : nI s < 5 := nI_lt (b := 5) (by omega) (by omega)
    simp [a1, a2, a3]
  · rw [hc h0, if_pos h6, h0, h1]; decide
  · rw [hc h0, if_neg (c0_of h2 h3 h6), h0, h1]
    have a1 : ¬ nI o < 0 := nI_pos (by omega)
    simp [a1]
theorem NI.own6 (h : NI d N f) : ¬ 6 ≤ N 1 := by
  rcases h with ⟨h0, h1, -⟩ | ⟨h0, h1, -⟩ | ⟨s, e, o, h2, h4, ho, -, -, h0, h1, -⟩ | ⟨q, -, h0, h6, h1, -⟩ | ⟨s, e, o, q, z, h2, h3, ho, -, -, -, -, -, h0, h6, h1, -⟩
  · rw [h1]; decide
  · rw [h1]; decide
  · rw [h1]; exact nI_ge (b := 6) ho (by omega)
  · rw [h1]; decide
  · rw [h1]; exact nI_ge (b := 6) ho (by omega)
theorem NI.z6 (h : NI d N f) (h1 : ¬ N 0 = 1) : Z6 f := by
  rcases h with ⟨-, -, h⟩ | ⟨h, -⟩ | ⟨s, e, o, -, -, -, -, -, -, -, -, h⟩ | ⟨q, -, -, -, -, -, h⟩ | ⟨s, e, o, q, z, -, -, -, -, -, -, -, -, -, -, -, -, -, -, h⟩
  · exact h
  · exact absurd h h1
  · exact h
  · exact h
  · exact h
theorem NI.cnt9 (h : NI d N f) : sCnt f 6 ≤ 0 ↔ ¬ N 0 = 1 := by
  rw [sCnt_n]
  by_cases h1 : N 0 = 1
  · have hb := (h.at1 h1).2.1.cpos
    have a := nI_nle hb (by have := cnt_le f 6; omega)
    simp [h1, a]
  · have hz : cnt f 6 = 0 := cnt_0 (h.z6 h1)
    rw [hz]
    simp [h1]
    decide
theorem cnt7 (f : Nat → Int32) : ¬ 7 ≤ sCnt f 6 := by
  rw [sCnt_n]
  exact nI_ge (b := 7) (by have := cnt_le f 6; omega) (by omega)
theorem NI.day5 (h : N 0 = 0 ∨ N 0 = 5) : sDay N = -1 := by
  rcases h with h | h
  · exact sDay_0 h
  · exact sDay_5 h
theorem NI.dayN (h : NI d N f) (hd : d < 2 ^ 30) (h0 : ¬ N 0 = 0) (h5 : ¬ N 0 = 5) : ∃ e : Nat, d < e ∧ e ≤ d + 640 ∧ sDay N = nI e := by
  rcases h with ⟨h, -⟩ | ⟨h, -, -, e, e1, e2, e3⟩ | ⟨s, e, o, h2, h4, ho, a1, a2, a3, a4, a5, -⟩ | ⟨q, -, h, -⟩ | ⟨s, e, o, q, z, -, -, -, -, -, -, -, -, h, -⟩
  · exact absurd h h0
  · exact ⟨e, e1, by omega, (sDay_1 h).trans e3⟩
  · exact ⟨e + 10 * s - 20, by omega, by omega, sDay_H h2 h4 a3 a5⟩
  · exact absurd h h5
  · exact absurd h h5
theorem NI.day9 (h : NI d N f) (hd : d < 2 ^ 30) (h0 : ¬ N 0 = 0) (h5 : ¬ N 0 = 5) : ¬ sDay N ≤ nI d := by
  obtain ⟨e, e1, e2, e3⟩ := h.dayN hd h0 h5
  rw [e3]
  exact nI_ge e1 (by omega)
end NAMES9
theorem psum_le {p : Nat} {m : Nat → Nat} : ∀ {i k : Nat}, k < i → p + m k ≤ psum p m i
  | 0, k, h => absurd h (by omega)
  | i + 1, k, h => by
    rw [psum]
    rcases Nat.lt_or_ge k i with q | q
    · have := psum_le (p := p) (m := m) q; omega
    · have e : k = i := by omega
      have h2 : p ≤ psum p m i := by
        clear q e h
        induction i with
        | zero => exact Nat.le_refl p
        | succ i ih => rw [psum]; omega
      subst e
      omega
theorem psum_p {p : Nat} {m : Nat → Nat} : ∀ {i : Nat}, p ≤ psum p m i
  | 0 => Nat.le_refl p
  | i + 1 => by rw [psum]; have := psum_p (p := p) (m := m) (i := i); omega
/-- the registry and the law's rows, as a call leaves them -/
abbrev UL : Type := (Nat → Int32) × (Nat → Int32) × (Nat → Nat → Int32) × (Nat → Nat → Int32) × (Nat → Nat → Int32) × (Nat → Nat → Int32) × (Nat → Nat → Int32) × (Nat → Nat → Int32) × (Nat → Nat → Int32) × (Nat → Int32) × (Nat → Int32) × (Nat → Int32) × (Nat → Int32)
abbrev INVu (d a : Nat) (u : UL) : Prop := INV d a u.1 u.2.1 u.2.2.1 u.2.2.2.1 u.2.2.2.2.2.1 u.2.2.2.2.2.2.1 u.2.2.2.2.2.2.2.1 u.2.2.2.2.2.2.2.2.1 u.2.2.2.2.2.2.2.2.2.1 u.2.2.2.2.2.2.2.2.2.2.1 u.2.2.2.2.2.2.2.2.2.2.2.1 u.2.2.2.2.2.2.2.2.2.2.2.2
/-- one name changes -/
theorem INV.one {d a a2 j : Nat} {D mny D2 m2 : Nat → Int32} {N f N2 f2 : Nat → Nat → Int32} {rk rf rg rh : Nat → Nat → Int32} {t c F G t2 c2 G2 : Nat → Int32} (h : INV d a D mny N f rk rf rg rh t c F G)
    (hD3 : D2 3 = D 3) (hM : MI a2 D2 m2) (hG0 : G2 0 = G 0) (hG1 : G2 1 = nI a2) (hG2 : G2 2 = G 2)
    (hN : ∀ k, ¬ k = j → N2 k = N k) (hf : ∀ k, ¬ k = j → f2 k = f k)
    (ht : ∀ k, k < 16 → ¬ k = j → t2 k = t k ∧ t2 (16 + k) = t (16 + k) ∧ t2 (32 + k) = t (32 + k) ∧ c2 k = c k ∧ c2 (16 + k) = c (16 + k) ∧ c2 (32 + k) = c (32 + k))
    (hn : NI d (N2 j) (f2 j)) (hl : LI t2 c2 j (N2 j)) : INV d a2 D2 m2 N2 f2 rk rf rg rh t2 c2 F G2 := by
  obtain ⟨i1, i2, -, -, i5, i6, i7⟩ := h
  refine ⟨hD3.trans i1, hG0.trans i2, hM, hG1, fun k hk => ?_, i6, hG2.trans i7⟩
  by_cases hkj : k = j
  · subst hkj
    exact ⟨hn, hl⟩
  · obtain ⟨a1, a2, a3, a4, a5, a6⟩ := ht k hk hkj
    obtain ⟨b1, b2, b3, b4, b5, b6, b7⟩ := i5 k hk
    rw [hN k hkj, hf k hkj]
    refine ⟨b1, a1.trans b2, a2.trans b3, a3.trans b4, fun z => ?_, fun z => ?_, b7⟩
    · rw [a4, a5]; exact b5 z
    · rw [a6]; exact b6 z
theorem MI.same {a : Nat} {D mny D2 : Nat → Int32} (h : MI a D mny) (h4 : D2 4 = D 4) : MI a D2 mny := by
  obtain ⟨m, p, h1, h2, h3⟩ := h
  exact ⟨m, p, h4.trans h1, h2, h3⟩
/-- somebody pays x -/
theorem MI.pay {a o x p : Nat} {m : Nat → Nat} {D mny D2 m2 : Nat → Int32} (h1 : D 4 = nI p) (h2 : ∀ k, k < 6 → mny k = nI (m k)) (h3 : psum p m 6 = a) (ho : o < 6) (hx : x ≤ m o) (e4 : D2 4 = nI (p + x)) (eo : m2 o = nI (m o - x)) (ek : ∀ k, ¬ k = o → m2 k = mny k) : MI a D2 m2 := by
  refine ⟨fun k => if k = o then m o - x else m k, p + x, e4, fun k hk => ?_, ?_⟩
  · by_cases hko : k = o
    · subst hko
      show m2 k = nI (if k = k then m k - x else m k)
      rw [if_pos rfl, eo]
    · show m2 k = nI (if k = o then m o - x else m k)
      rw [if_neg hko, ek k hko, h2 k hk]
  · rw [← h3]
    have hall : ∀ i, psum (p + x) (fun k => if k = o then m o - x else m k) i = psum p m i + (if o < i then 0 else x) := by
      intro i
      induction i with
      | zero => simp [psum]
      | succ i ih =>
        rw [psum, psum, ih]
        by_cases hio : i = o
        · subst hio
          rw [if_pos rfl, if_neg (by omega), if_pos (by omega)]
          omega
        · rw [if_neg hio]
          by_cases h : o < i
          · rw [if_pos h, if_pos (by omega)]; omega
          · rw [if_neg h, if_neg (by omega)]; omega
    rw [hall 6, if_pos ho]
    omega
/-- somebody is given x -/
theorem MI.give {a o x p : Nat} {m : Nat → Nat} {D mny D2 m2 : Nat → Int32} (h1 : D 4 = nI p) (h2 : ∀ k, k < 6 → mny k = nI (m k)) (h3 : psum p m 6 = a) (ho : o < 6) (e4 : D2 4 = D 4) (eo : m2 o = nI (m o + x)) (ek : ∀ k, ¬ k = o → m2 k = mny k) : MI (a + x) D2 m2 := by
  refine ⟨fun k => if k = o then m o + x else m k, p, e4.trans h1, fun k hk => ?_, ?_⟩
  · by_cases hko : k = o
    · subst hko
      show m2 k = nI (if k = k then m k + x else m k)
      rw [if_pos rfl, eo]
    · show m2 k = nI (if k = o then m o + x else m k)
      rw [if_neg hko, ek k hko, h2 k hk]
  · rw [← h3]
    have hall : ∀ i, psum p (fun k => if k = o then m o + x else m k) i = psum p m i + (if o < i then x else 0) := by
      intro i
      induction i with
      | zero => simp [psum]
      | succ i ih =>
        rw [psum, psum, ih]
        by_cases hio : i = o
        · subst hio
          rw [if_pos rfl, if_neg (by omega), if_pos (by omega)]
          omega
        · rw [if_neg hio]
          by_cases h : o < i
          · rw [if_pos h, if_pos (by omega)]; omega
          · rw [if_neg h, if_neg (by omega)]; omega
    rw [hall 6, if_pos ho]
theorem okI_d {k n : Nat} (hk : k < 2 ^ 31) (hn : n < 2 ^ 31) : okI (nI k) (nI n) = decide (k < n) := by
  by_cases h : k < n
  · rw [okI_nat9 hk hn h, decide_eq_true h]
  · rw [decide_eq_false h]
    exact decide_eq_false (fun z => z.2 (nI_le (by omega) hk))
theorem okR_d {x a b : Nat} (hx : x < 2 ^ 31) (ha : a < 2 ^ 31) (hb : b < 2 ^ 31) : okR (nI x) (nI a) (nI b) = decide (a ≤ x ∧ x ≤ b) := by
  by_cases h : a ≤ x ∧ x ≤ b
  · rw [decide_eq_true h]
    exact decide_eq_true ⟨nI_nlt h.1 hx, nI_nlt h.2 hb⟩
  · rw [decide_eq_false h]
    refine decide_eq_false (fun z => h ⟨?_, ?_⟩)
    · exact Nat.not_lt.mp (fun q => z.1 (nI_lt q ha))
    · exact Nat.not_lt.mp (fun q => z.2 (nI_lt q hx))
theorem ix6 {i : Nat} (hi : i < 2 ^ 31) : okI (nI i) 6 = true → nI i = nI (i % 6) ∧ i % 6 < 6 := by
  intro h
  rw [show okI (nI i) 6 = decide (i < 6) from okI_d (n := 6) hi (by omega)] at h
  have h := of_decide_eq_true h
  rw [Nat.mod_eq_of_lt h]
  exact ⟨rfl, h⟩
theorem ix16 {i : Nat} (hi : i < 2 ^ 31) : okI (nI i) 16 = true → nI i = nI (i % 16) ∧ i % 16 < 16 := by
  intro h
  rw [show okI (nI i) 16 = decide (i < 16) from okI_d (n := 16) hi (by omega)] at h
  have h := of_decide_eq_true h
  rw [Nat.mod_eq_of_lt h]
  exact ⟨rfl, h⟩
theorem kBid_n {i j x : Nat} (hi : i < 2 ^ 31) (hj : j < 2 ^ 31) (hx : x < 2 ^ 31) (N : Nat → Int32) : kBid (nI i) (nI j) (nI x) N = if i < 6 then (if j < 16 then (if 10 ≤ x ∧ x ≤ 100000 then (if N 0 = 0 then 0 else if N 0 = 1 then 0 else 3) else 2) else 1) else 1 := by
  rw [kBid, show okI (nI i) 6 = decide (i < 6) from okI_d (n := 6) hi (by omega), show okI (nI j) 16 = decide (j < 16) from okI_d (n := 16) hj (by omega), show okR (nI x) 10 100000 = decide (10 ≤ x ∧ x ≤ 100000) from okR_d (a := 10) (b := 100000) hx (by omega) (by omega)]
  simp only [decide_eq_true_eq]
theorem kDep_n {i x : Nat} (hi : i < 2 ^ 31) (hx : x < 2 ^ 31) : kDep (nI i) (nI x) = if i < 6 then (if 1 ≤ x ∧ x ≤ 100000 then 0 else 2) else 1 := by
  rw [kDep, show okI (nI i) 6 = decide (i < 6) from okI_d (n := 6) hi (by omega), show okR (nI x) 1 100000 = decide (1 ≤ x ∧ x ≤ 100000) from okR_d (a := 1) (b := 100000) hx (by omega) (by omega)]
  simp only [decide_eq_true_eq]
theorem kRenew_n {j x : Nat} (hj : j < 2 ^ 31) (hx : x < 2 ^ 31) (D mny N : Nat → Int32) : kRenew D mny N (nI j) (nI x) = if j < 16 then (if 1 ≤ x ∧ x ≤ 5 then (if sHeld (N 0) = 0 then 3 else if D 3 + 600 < N 3 + nI x * 100 then 3 else if sCan mny (N 1) (nI x * 20) = 0 then 3 else 0) else 2) else 1 := by
  rw [kRenew, show okI (nI j) 16 = decide (j < 16) from okI_d (n := 16) hj (by omega), show okR (nI x) 1 5 = decide (1 ≤ x ∧ x ≤ 5) from okR_d (a := 1) (b := 5) hx (by omega) (by omega)]
  simp only [decide_eq_true_eq]
theorem kRedeem_n {j : Nat} (hj : j < 2 ^ 31) (mny N : Nat → Int32) : kRedeem mny N (nI j) = if j < 16 then (if N 0 = 4 then (if sCan mny (N 1) 50 = 0 then 3 else 0) else 3) else 1 := by
  rw [kRedeem, show okI (nI j) 16 = decide (j < 16) from okI_d (n := 16) hj (by omega)]
  simp only [decide_eq_true_eq]
theorem kSetRec_n {j x y : Nat} (hj : j < 2 ^ 31) (hx : x < 2 ^ 31) (hy : y < 2 ^ 31) (N : Nat → Int32) : kSetRec N (nI j) (nI x) (nI y) = if j < 16 then (if x ≤ 999 then (if 1 ≤ y ∧ y ≤ 50 then (if N 0 = 2 then 0 else 3) else 2) else 2) else 1 := by
  rw [kSetRec, show okI (nI j) 16 = decide (j < 16) from okI_d (n := 16) hj (by omega), show okR (nI x) 0 999 = decide (0 ≤ x ∧ x ≤ 999) from okR_d (a := 0) (b := 999) hx (by omega) (by omega), show okR (nI y) 1 50 = decide (1 ≤ y ∧ y ≤ 50) from okR_d (a := 1) (b := 50) hy (by omega) (by omega)]
  simp only [decide_eq_true_eq, Nat.zero_le, true_and]
theorem kDispute_n {i j : Nat} (hi : i < 2 ^ 31) (hj : j < 2 ^ 31) (N : Nat → Int32) : kDispute N (nI i) (nI j) = if i < 6 then (if j < 16 then (if N 0 = 1 then (if N 1 = nI i then 3 else 0) else if sHeld (N 0) = 0 then 3 else if N 1 = nI i then 3 else 0) else 1) else 1 := by
  rw [kDispute, show okI (nI i) 6 = decide (i < 6) from okI_d (n := 6) hi (by omega), show okI (nI j) 16 = decide (j < 16) from okI_d (n := 16) hj (by omega)]
  simp only [decide_eq_true_eq]
theorem kDecide_n {j : Nat} (hj : j < 2 ^ 31) (N : Nat → Int32) : kDecide N (nI j) = if j < 16 then (if N 0 = 5 then 0 else 3) else 1 := by
  rw [kDecide, show okI (nI j) 16 = decide (j < 16) from okI_d (n := 16) hj (by omega)]
  simp only [decide_eq_true_eq]
