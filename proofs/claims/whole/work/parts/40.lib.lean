/-! ===== plain rows: stores and reads of g, places, tests ===== -/
theorem gu_s (g : fp_G) (k i : Nat) (x : Int32) : gu g k i x k i = x := by simp [gu]
theorem gu_i (g : fp_G) {k i j : Nat} (x : Int32) (h : j ≠ i) : gu g k i x k j = g k j := by simp [gu, h]
theorem gu_k (g : fp_G) {k k2 : Nat} (i : Nat) (x : Int32) (h : k2 ≠ k) : gu g k i x k2 = g k2 := by funext j; simp [gu, h]
theorem gu_f (g : fp_G) (k i : Nat) (x : Int32) : gu g k i x k = upd (g k) i x := by
  funext j
  by_cases h : j = i <;> simp [gu, upd, h]
theorem gc_f (g : fp_G) (k : Nat) (f : Nat → Int32) : gc g k f k = f := by simp [gc]
theorem gc_k (g : fp_G) {k k2 : Nat} (f : Nat → Int32) (h : k2 ≠ k) : gc g k f k2 = g k2 := by simp [gc, h]
theorem tn_n {n : Nat} (h : n < 2 ^ 31) : tn (nI n) = n := nI_clamp h
theorem rd_n {f : Nat → Int32} {n k : Nat} {P : Int32 → Prop} (hk : k < n) (hn : n < 2 ^ 31) (h : P (f k)) : fp_rd f n (nI k) P := ⟨vp_in_nI hk hn, by rw [tn_n (by omega)]; exact h⟩
theorem rd_e {f : Nat → Int32} {n k : Nat} {i : Int32} {P : Int32 → Prop} (hi : i = nI k) (hk : k < n) (hn : n < 2 ^ 31) (h : P (f k)) : fp_rd f n i P := by rw [hi]; exact rd_n hk hn h
theorem wr_n {g : fp_G} {q n k : Nat} {x : Int32} {P : fp_G → Prop} (hk : k < n) (hn : n < 2 ^ 31) (h : P (gu g q k x)) : fp_wr g q n (nI k) x P := ⟨vp_in_nI hk hn, by rw [tn_n (by omega)]; exact h⟩
theorem wr_e {g : fp_G} {q n k : Nat} {i x : Int32} {P : fp_G → Prop} (hi : i = nI k) (hk : k < n) (hn : n < 2 ^ 31) (h : P (gu g q k x)) : fp_wr g q n i x P := by rw [hi]; exact wr_n hk hn h
theorem pf_i {g : fp_G} {q k : Nat} {x : Int32} {P : fp_G → Prop} (h : P (gu g q k x)) : fp_pf g q k x P := h
theorem dv_i {y : Int32} {P : Prop} (hy : ¬ y = 0) (h : P) : fp_dv y P := ⟨hy, h⟩
theorem it {c A B : Prop} {i : Decidable c} (h : c) (a : A) : @ite Prop c i A B := by rw [if_pos h]; exact a
theorem ie {c A B : Prop} {i : Decidable c} (h : ¬ c) (b : B) : @ite Prop c i A B := by rw [if_neg h]; exact b
theorem is {c A B : Prop} {i : Decidable c} (a : c → A) (b : ¬ c → B) : @ite Prop c i A B := by
  by_cases h : c
  · rw [if_pos h]; exact a h
  · rw [if_neg h]; exact b h
/-- an answer of yes or no -/
def bi (c : Prop) [Decidable c] : Int32 := if c then 1 else 0
theorem bi_t {c : Prop} {i : Decidable c} (h : c) : @bi c i = 1 := if_pos h
theorem bi_f {c : Prop} {i : Decidable c} (h : ¬ c) : @bi c i = 0 := if_neg h
theorem bi_0 {c : Prop} {i : Decidable c} : (@bi c i = 0) ↔ ¬ c := by
  by_cases h : c
  · rw [bi_t h]; simp [h]
  · rw [bi_f h]; simp [h]
theorem bi_1 {c : Prop} {i : Decidable c} : (@bi c i = 1) ↔ c := by
  by_cases h : c
  · rw [bi_t h]; simp [h]
  · rw [bi_f h]; simp [h]
theorem ibi {c A B : Prop} {i : Decidable c} {j : Decidable (@bi c i = 0)} (a : ¬ c → A) (b : c → B) : @ite Prop (@bi c i = 0) j A B := by
  by_cases h : c
  · rw [if_neg (by rw [bi_t h]; decide)]; exact b h
  · rw [if_pos (bi_f h)]; exact a h
/-- ints as whole numbers -/
theorem lt_I {a b : Int32} : a < b ↔ a.toInt < b.toInt := Int32.lt_iff_toInt_lt
theorem le_I {a b : Int32} : a ≤ b ↔ a.toInt ≤ b.toInt := Int32.le_iff_toInt_le
theorem eq_I {a b : Int32} : a = b ↔ a.toInt = b.toInt := Int32.toInt_inj.symm
theorem nI_I {n : Nat} (h : n < 2 ^ 31) : (nI n).toInt = n := nI_toInt h
theorem ix_of {x : Int32} {n : Nat} (hn : n < 2 ^ 31) (h0 : ¬ x < 0) (h1 : ¬ nI n ≤ x) : ∃ j, j < n ∧ x = nI j := by
  rcases pk_ix x hn with h | h | h
  · exact absurd h h0
  · exact absurd h h1
  · exact h
theorem L64 (a : Int32) : a.toInt64.toInt = a.toInt := Int32.toInt_toInt64 a
theorem cmp_lt (x y : Int64) : lg_cmp x y < 0 ↔ x.toInt < y.toInt := by
  unfold lg_cmp
  simp only [gt_iff_lt, Int64.lt_iff_toInt_lt, ← Int64.toInt_inj]
  repeat' split
  all_goals (constructor <;> intro hh <;> first | omega | decide | exact absurd hh (by decide))
theorem cmp_ge (x y : Int64) : 0 ≤ lg_cmp x y ↔ y.toInt ≤ x.toInt := by
  unfold lg_cmp
  simp only [gt_iff_lt, Int64.lt_iff_toInt_lt, ← Int64.toInt_inj]
  repeat' split
  all_goals (constructor <;> intro hh <;> first | omega | decide | exact absurd hh (by decide))
theorem cmp_gt (x y : Int64) : 0 < lg_cmp x y ↔ y.toInt < x.toInt := by
  unfold lg_cmp
  simp only [gt_iff_lt, Int64.lt_iff_toInt_lt, ← Int64.toInt_inj]
  repeat' split
  all_goals (constructor <;> intro hh <;> first | omega | decide | exact absurd hh (by decide))
theorem cmp_le (x y : Int64) : lg_cmp x y ≤ 0 ↔ x.toInt ≤ y.toInt := by
  unfold lg_cmp
  simp only [gt_iff_lt, Int64.lt_iff_toInt_lt, ← Int64.toInt_inj]
  repeat' split
  all_goals (constructor <;> intro hh <;> first | omega | decide | exact absurd hh (by decide))
/-- the refusal of a number -/
def outS (a : Int32) (lo hi : Int) : Int32 := if a.toInt < lo then -4 else if hi < a.toInt then -6 else 0
theorem e_out {a : Int32} {lo hi : Int64} {l h : Int} {g : fp_G} {K : Int32 → fp_G → Prop} (hl : lo.toInt = l) (hh : hi.toInt = h) (k : K (outS a l h) g) : w_X9_out a.toInt64 lo hi g K := by
  unfold w_X9_out
  unfold outS at k
  refine is (fun c => is (fun c2 => ?_) (fun c2 => ?_)) (fun c => ?_) <;> simp only [cmp_ge, cmp_le, L64] at c
  · simp only [cmp_le, L64] at c2
    rw [if_neg (by omega), if_neg (by omega)] at k
    exact k
  · simp only [cmp_le, L64] at c2
    rw [if_neg (by omega), if_pos (by omega)] at k
    exact k
  · rw [if_pos (by omega)] at k
    exact k
theorem e_outside {a lo hi : Int32} {l h : Int} {g : fp_G} {K : Int32 → fp_G → Prop} (hl : lo.toInt = l) (hh : hi.toInt = h) (k : K (outS a l h) g) : w_X8_outside a lo hi g K := by
  unfold w_X8_outside
  unfold outS at k
  refine is (fun c => is (fun c2 => ?_) (fun c2 => ?_)) (fun c => ?_) <;> rw [le_I] at c
  · rw [le_I] at c2
    rw [if_neg (by omega), if_neg (by omega)] at k
    exact k
  · rw [le_I] at c2
    rw [if_neg (by omega), if_pos (by omega)] at k
    exact k
  · rw [if_pos (by omega)] at k
    exact k
theorem e_isIn {a : Int32} {lo hi : Int64} {l h : Int} {g : fp_G} {K : Int32 → fp_G → Prop} (hl : lo.toInt = l) (hh : hi.toInt = h) (k : K (bi (l ≤ a.toInt ∧ a.toInt ≤ h)) g) : w_X9_isIn a.toInt64 lo hi g K := by
  unfold w_X9_isIn fp_j
  refine is (fun c => ?_) (fun c => is (fun c2 => ?_) (fun c2 => ?_)) <;> simp only [cmp_lt, L64] at c
  · rw [bi_f (by omega)] at k
    exact k
  · simp only [cmp_gt, L64] at c2
    rw [bi_f (by omega)] at k
    exact k
  · simp only [cmp_gt, L64] at c2
    rw [bi_t (by omega)] at k
    exact k
