/-! ===== an hour, as a function of what the course holds ===== -/
/-- D' is D but for the entries of mail m, which are e -/
def Lc (D : fp_G) (m : Nat) (D' : fp_G) (e : Nat → Int32) : Prop := ∀ r m', D' r m' = if m' = m then e r else D r m'
theorem Lc_refl (D : fp_G) (m : Nat) : Lc D m D (fun r => D r m) := by
  intro r m'
  by_cases z : m' = m
  · rw [if_pos z, z]
  · rw [if_neg z]
theorem Lc_gu {D D' : fp_G} {m : Nat} {e : Nat → Int32} (h : Lc D m D' e) (r : Nat) (v : Int32) : Lc D m (gu D' r m v) (upd e r v) := by
  intro r' m'
  by_cases z : m' = m
  · subst z
    rw [if_pos rfl]
    by_cases z2 : r' = r
    · subst z2
      rw [gu_s, upd_s]
    · rw [gu_k _ _ _ z2, upd_n _ _ z2, h r' m', if_pos rfl]
  · rw [if_neg z]
    have : gu D' r m v r' m' = D' r' m' := by simp [gu, z]
    rw [this, h r' m', if_neg z]
theorem Lc_at {D D' : fp_G} {m : Nat} {e : Nat → Int32} (h : Lc D m D' e) (r : Nat) : D' r m = e r := by rw [h r m, if_pos rfl]
def finE (e : Nat → Int32) (w : Int32) (h : Nat) : Nat → Int32 := upd (upd e 1 w) 3 (nI h)
def turE (e : Nat → Int32) (w : Int32) : Nat → Int32 := upd (upd e 4 1) 5 w
def sndE (g : fp_G) (e : Nat → Int32) (o h : Nat) (w : Int32) : Nat → Int32 := if ¬ w < 0 ∧ lvS g (tn w) h = true then upd (upd (upd e 1 1) 2 (nI (oth g o (tn w)))) 3 (nI h + g 12 (tn w)) else e
def hanE (g : fp_G) (e : Nat → Int32) (m o h : Nat) (gl : Int32) : Nat → Int32 :=
  if gl = nI o ∧ ¬ e 4 = 0 then finE e 3 h
  else if gl = nI o ∧ whB g (tn (g 40 m)) h = nI o then finE (upd e 7 (spS g m h)) 2 h
  else if gl = nI o ∨ gl = -9 then (if nI h - e 3 < g 2 7 then e else turE e 1)
  else sndE g e o h (wS g o gl)
def tbE (e : Nat → Int32) (b : Bool) (s : Int32) : Nat → Int32 := if e 4 = 0 then (if b then turE e 4 else if s = 2 ∨ s = 3 then turE e s else e) else e
def fcE (g : fp_G) (e : Nat → Int32) (m h : Nat) : Nat → Int32 := fc9 (g 38 m) (g 41 m) (nI h - g 42 m) (nI h - e 3) (stB g (g 40 m) h (lateN g (tn (e 2)))) (g 23 (tn (g 40 m))) (e 2) (if e 4 = 0 then 0 else 1) (e 6)
def tbX (g : fp_G) (F : Nat → (Nat → Int32) → Bool) (m h : Nat) (e : Nat → Int32) : Nat → Int32 := tbE e (holdV g F 2 (tn (e 2)) h (fcE g e m h)) (stB g (g 40 m) h (lateN g (tn (e 2))))
def seeE (g : fp_G) (F : Nat → (Nat → Int32) → Bool) (m h : Nat) (e : Nat → Int32) : Nat → Int32 :=
  if holdV g F 0 (tn (e 2)) h (fcE g e m h) then finE e 4 h
  else if holdV g F 1 (tn (e 2)) h (fcE g e m h) then e
  else hanE g (tbX g F m h e) m (tn (e 2)) h (gS g (tbX g F m h e 4) m (tn (e 2)) h)
theorem Lc_han {g D D' : fp_G} {m o h : Nat} {e : Nat → Int32} (hL : Lc D m D' e) (gl : Int32) : Lc D m (hanD g D' m o h gl) (hanE g e m o h gl) := by
  unfold hanD hanE
  rw [Lc_at hL, Lc_at hL]
  by_cases c1 : gl = nI o ∧ ¬ e 4 = 0
  · rw [if_pos c1, if_pos c1]
    exact Lc_gu (Lc_gu hL _ _) _ _
  rw [if_neg c1, if_neg c1]
  by_cases c2 : gl = nI o ∧ whB g (tn (g 40 m)) h = nI o
  · rw [if_pos c2, if_pos c2]
    exact Lc_gu (Lc_gu (Lc_gu hL _ _) _ _) _ _
  rw [if_neg c2, if_neg c2]
  by_cases c3 : gl = nI o ∨ gl = -9
  · rw [if_pos c3, if_pos c3]
    by_cases c4 : nI h - e 3 < g 2 7
    · rw [if_pos c4, if_pos c4]
      exact hL
    · rw [if_neg c4, if_neg c4]
      exact Lc_gu (Lc_gu hL _ _) _ _
  rw [if_neg c3, if_neg c3]
  unfold sndD sndE
  by_cases c5 : ¬ wS g o gl < 0 ∧ lvS g (tn (wS g o gl)) h = true
  · rw [if_pos c5, if_pos c5]
    exact Lc_gu (Lc_gu (Lc_gu hL _ _) _ _) _ _
  · rw [if_neg c5, if_neg c5]
    exact hL
theorem Lc_tb (g D : fp_G) (m : Nat) (b : Bool) (s : Int32) : Lc D m (tbD g D m b s) (tbE (fun r => D r m) b s) := by
  unfold tbD tbE
  have hL := Lc_refl D m
  by_cases c1 : D 4 m = 0
  · rw [if_pos c1, if_pos c1]
    cases b
    · rw [if_neg (show ¬ false = true by decide), if_neg (show ¬ false = true by decide)]
      by_cases c2 : s = 2 ∨ s = 3
      · rw [if_pos c2, if_pos c2]
        exact Lc_gu (Lc_gu hL _ _) _ _
      · rw [if_neg c2, if_neg c2]
        exact hL
    · rw [if_pos rfl, if_pos rfl]
      exact Lc_gu (Lc_gu hL _ _) _ _
  · rw [if_neg c1, if_neg c1]
    exact hL
theorem Lc_see (g : fp_G) (F : Nat → (Nat → Int32) → Bool) (D : fp_G) (m h : Nat) : Lc D m (seeD g F D m h) (seeE g F m h (fun r => D r m)) := by
  unfold seeD seeE
  have e1 : fcE g (fun r => D r m) m h = fcD g D m h := rfl
  rw [e1]
  show Lc D m (if holdV g F 0 (tn (D 2 m)) h (fcD g D m h) = true then _ else if holdV g F 1 (tn (D 2 m)) h (fcD g D m h) = true then _ else _) (if holdV g F 0 (tn (D 2 m)) h (fcD g D m h) = true then _ else if holdV g F 1 (tn (D 2 m)) h (fcD g D m h) = true then _ else _)
  by_cases c0 : holdV g F 0 (tn (D 2 m)) h (fcD g D m h) = true
  · rw [if_pos c0, if_pos c0]
    exact Lc_gu (Lc_gu (Lc_refl D m) _ _) _ _
  rw [if_neg c0, if_neg c0]
  by_cases c1 : holdV g F 1 (tn (D 2 m)) h (fcD g D m h) = true
  · rw [if_pos c1, if_pos c1]
    exact Lc_refl D m
  rw [if_neg c1, if_neg c1]
  have ht := Lc_tb g D m (holdV g F 2 (tn (D 2 m)) h (fcD g D m h)) (stB g (g 40 m) h (lateN g (tn (D 2 m))))
  rw [Lc_at ht]
  exact Lc_han ht _
/-- those of p are seen -/
def PD (g : fp_G) (F : Nat → (Nat → Int32) → Bool) (h : Nat) (A : fp_G) (p : Nat → Bool) : fp_G := fun r m => if p m then seeE g F m h (fun r => A r m) r else A r m
theorem PD_no {g : fp_G} {F : Nat → (Nat → Int32) → Bool} {h : Nat} {A : fp_G} {p : Nat → Bool} {m : Nat} (hp : p m = false) (r : Nat) : PD g F h A p r m = A r m := by
  unfold PD
  rw [hp]
  rfl
theorem PD_step {g : fp_G} {F : Nat → (Nat → Int32) → Bool} {h : Nat} {A : fp_G} {p p' : Nat → Bool} {m : Nat} (hp : p m = false) (hp1 : p' m = true) (hp2 : ∀ m', m' ≠ m → p' m' = p m') : seeD g F (PD g F h A p) m h = PD g F h A p' := by
  funext r m'
  rw [Lc_see g F (PD g F h A p) m h r m']
  by_cases z : m' = m
  · subst z
    rw [if_pos rfl]
    have : (fun r => PD g F h A p r m') = (fun r => A r m') := funext (fun r => PD_no hp r)
    rw [this]
    unfold PD
    rw [hp1]
    rfl
  · rw [if_neg z]
    unfold PD
    rw [hp2 m' z]
theorem PD_congr {g : fp_G} {F : Nat → (Nat → Int32) → Bool} {h : Nat} {A : fp_G} {p p' : Nat → Bool} (e : ∀ m, p m = p' m) : PD g F h A p = PD g F h A p' := by
  rw [show p = p' from funext e]
theorem PD_zero {g : fp_G} {F : Nat → (Nat → Int32) → Bool} {h : Nat} {A : fp_G} {p : Nat → Bool} (e : ∀ m, p m = false) : PD g F h A p = A := by
  funext r m
  exact PD_no (e m) r
def comD (D : fp_G) (m : Nat) : fp_G := gu (gu D 1 m 0) 6 m (D 6 m + 1)
def arr1 (D : fp_G) (m h : Nat) : fp_G := if D 1 m = 1 ∧ D 3 m = nI h then comD D m else D
def arrD (D : fp_G) (h : Nat) : Nat → fp_G
  | 0 => D
  | n + 1 => arr1 (arrD D h n) n h
/-- the trace that would be kept -/
def arrT (D : fp_G) (T : Nat → Int32) (h : Nat) : Nat → Nat → Int32
  | 0 => T
  | n + 1 => if (arrD D h n) 1 n = 1 ∧ (arrD D h n) 3 n = nI h ∧ (arrD D h n) 6 n < 40 then upd (arrT D T h n) (40 * n + tn ((arrD D h n) 6 n)) ((arrD D h n) 2 n) else arrT D T h n
def lexB (D : fp_G) (a b : Nat) : Bool := decide (D 3 a < D 3 b) || (decide (D 3 a = D 3 b) && decide (a < b))
def rkP (D : fp_G) (m m' : Nat) : Bool := decide (D 1 m' = 0) && (decide (D 2 m' = D 2 m) && lexB D m' m)
def rkD (D : fp_G) (n m : Nat) : Nat := ctB (rkP D m) n
def hdN (g : fp_G) (o : Nat) : Nat := tn (g 7 o)
def prc (g A : fp_G) (n m : Nat) : Bool := decide (m < n) && (decide (A 1 m = 0) && decide (rkD A n m < hdN g (tn (A 2 m))))
def hourD (g : fp_G) (F : Nat → (Nat → Int32) → Bool) (D : fp_G) (h : Nat) : fp_G := PD g F h (arrD D h (nMa g)) (prc g (arrD D h (nMa g)) (nMa g))
/-- what holds of the mails hour by hour -/
def IV (g D : fp_G) (h : Nat) : Prop := ∀ m, m < nMa g → (∃ o, o < nO g ∧ D 2 m = nI o) ∧ ((D 1 m = 0 ∨ D 1 m = 1) → D 7 m = 0) ∧ ∃ k, k ≤ h + 1 ∧ D 6 m = nI k
theorem arr1_o (D : fp_G) (m h r m' : Nat) (hm : m' ≠ m) : arr1 D m h r m' = D r m' := by
  unfold arr1 comD
  split
  · simp [gu, hm]
  · rfl
theorem arrD_o (D : fp_G) (h r m' : Nat) : ∀ n, n ≤ m' → arrD D h n r m' = D r m'
  | 0, _ => rfl
  | n + 1, hn => by rw [arrD, arr1_o _ _ _ _ _ (by omega), arrD_o D h r m' n (by omega)]
theorem arrD_d (D : fp_G) (h r m' : Nat) : ∀ d, arrD D h (m' + 1 + d) r m' = arr1 D m' h r m'
  | 0 => by
    rw [Nat.add_zero, arrD]
    unfold arr1
    rw [arrD_o D h 1 m' m' (Nat.le_refl _), arrD_o D h 3 m' m' (Nat.le_refl _)]
    split
    · unfold comD
      by_cases z : r = 6
      · subst z
        rw [gu_s, gu_s, arrD_o D h 6 m' m' (Nat.le_refl _)]
      · rw [gu_k _ _ _ z, gu_k _ _ _ z]
        by_cases z1 : r = 1
        · subst z1
          rw [gu_s, gu_s]
        · rw [gu_k _ _ _ z1, gu_k _ _ _ z1, arrD_o D h r m' m' (Nat.le_refl _)]
    · exact arrD_o D h r m' m' (Nat.le_refl _)
  | d + 1 => by
    rw [show m' + 1 + (d + 1) = (m' + 1 + d) + 1 from rfl, arrD, arr1_o _ _ _ _ _ (by omega)]
    exact arrD_d D h r m' d
theorem arrD_at (D : fp_G) (h r : Nat) {m n : Nat} (hm : m < n) : arrD D h n r m = arr1 D m h r m := by
  have := arrD_d D h r m (n - (m + 1))
  rw [show m + 1 + (n - (m + 1)) = n by omega] at this
  exact this
theorem IV_arr {g D : fp_G} {h n : Nat} (hI : IV g D h) (hn : n = nMa g) : (∀ m, m < nMa g → (∃ o, o < nO g ∧ arrD D h n 2 m = nI o) ∧ ((arrD D h n 1 m = 0 ∨ arrD D h n 1 m = 1) → arrD D h n 7 m = 0) ∧ ∃ k, k ≤ h + 2 ∧ arrD D h n 6 m = nI k) := by
  intro m hm
  obtain ⟨⟨o, ho, eo⟩, h7, k, hk, ek⟩ := hI m hm
  rw [arrD_at D h 2 (by omega), arrD_at D h 1 (by omega), arrD_at D h 7 (by omega), arrD_at D h 6 (by omega)]
  unfold arr1
  split
  · rename_i c
    unfold comD
    refine ⟨⟨o, ho, by rw [gu_k _ _ _ (by decide), gu_k _ _ _ (by decide)]; exact eo⟩, fun _ => ?_, k + 1, by omega, ?_⟩
    · rw [gu_k _ _ _ (by decide), gu_k _ _ _ (by decide)]
      exact h7 (Or.inr c.1)
    · rw [gu_s, ek]
      exact (nI_succ k).symm
  · exact ⟨⟨o, ho, eo⟩, h7, k, by omega, ek⟩
