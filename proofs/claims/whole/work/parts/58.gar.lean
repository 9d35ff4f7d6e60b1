/-! what stands in a garden's rows; the rest of a garden's methods -/
def hiV (a k : Nat) : Int := if a = 2 then (if k = 2 then 2147483647 else if k = 3 then 99 else if k = 4 then 9 else if k = 5 then 5 else if k = 6 then 8 else 0)
  else if a = 14 then (if k < 6 then 99 else 0) else if a = 15 then (if k < 6 then 1 else 0) else if a = 16 then (if k < 8 then 5 else 0) else if a = 17 then (if k < 8 then 9 else 0)
  else if a = 18 then (if k < 8 then 5 else 0) else if a = 19 then (if k < 8 then 999 else 0) else if a = 20 then (if k < 8 then 9 else 0) else if a = 21 then (if k < 8 then 999 else 0) else 0
def loV (a k : Nat) : Int := if a = 2 then (if k = 2 then -2147483648 else if k = 4 then 1 else 0) else if a = 18 then (if k < 8 then -5 else 0) else 0
/-- every value of the garden is within what it may be -/
def gr (S : gS) : Prop := ∀ a k, loV a k ≤ (S a k).toInt ∧ (S a k).toInt ≤ hiV a k
theorem i_add {x y : Int32} (h1 : -2147483648 ≤ x.toInt + y.toInt) (h2 : x.toInt + y.toInt < 2147483648) : (x + y).toInt = x.toInt + y.toInt := by
  rw [Int32.toInt_add, Int.bmod_eq_of_le (by omega) (by omega)]
theorem i_sub {x y : Int32} (h1 : -2147483648 ≤ x.toInt - y.toInt) (h2 : x.toInt - y.toInt < 2147483648) : (x - y).toInt = x.toInt - y.toInt := by
  rw [Int32.toInt_sub, Int.bmod_eq_of_le (by omega) (by omega)]
theorem i_mul {x y : Int32} (h1 : -2147483648 ≤ x.toInt * y.toInt) (h2 : x.toInt * y.toInt < 2147483648) : (x * y).toInt = x.toInt * y.toInt := by
  rw [Int32.toInt_mul, Int.bmod_eq_of_le (by omega) (by omega)]
theorem i_0 : (0 : Int32).toInt = 0 := by decide
theorem i_1 : (1 : Int32).toInt = 1 := by decide
theorem i_2 : (2 : Int32).toInt = 2 := by decide
theorem i_9 : (9 : Int32).toInt = 9 := by decide
theorem i_99 : (99 : Int32).toInt = 99 := by decide
theorem i_999 : (999 : Int32).toInt = 999 := by decide
theorem i_lt {x y : Int32} : x < y ↔ x.toInt < y.toInt := Int32.lt_iff_toInt_lt
theorem i_le {x y : Int32} : x ≤ y ↔ x.toInt ≤ y.toInt := Int32.le_iff_toInt_le
theorem i_eq {x y : Int32} : x = y ↔ x.toInt = y.toInt := ⟨fun e => by rw [e], fun e => Int32.toInt_inj.mp e⟩
theorem mx0_i (x : Int32) : (mx0 x).toInt = (if 0 < x.toInt then x.toInt else 0) := by
  unfold mx0
  by_cases h : 0 < x
  · rw [if_pos h, if_pos (by rw [i_lt, i_0] at h; exact h)]
  · rw [if_neg h, if_neg (by rw [i_lt, i_0] at h; exact h), i_0]
theorem mn_i (m x : Int32) : (mn m x).toInt = (if x.toInt < m.toInt then x.toInt else m.toInt) := by
  unfold mn
  by_cases h : x < m
  · rw [if_pos h, if_pos (i_lt.mp h)]
  · rw [if_neg h, if_neg (fun q => h (i_lt.mpr q))]
theorem cl_i (v : Int32) : 0 ≤ (cl v).toInt ∧ (cl v).toInt ≤ 99 := by
  unfold cl
  by_cases h : v < 99
  · rw [if_pos h]
    by_cases h2 : 0 < v
    · rw [if_pos h2]; rw [i_lt, i_99] at h; rw [i_lt, i_0] at h2; omega
    · rw [if_neg h2, i_0]; omega
  · rw [if_neg h, if_pos (by decide), i_99]; omega
theorem gr_up {S : gS} {a k : Nat} {v : Int32} (h : gr S) (hv : loV a k ≤ v.toInt ∧ v.toInt ≤ hiV a k) : gr (upS S a k v) := by
  intro a' k'
  unfold upS
  by_cases e : a' = a ∧ k' = k
  · rw [if_pos e, e.1, e.2]; exact hv
  · rw [if_neg e]; exact h a' k'
/-- what the rule says is within 0 .. 99 -/
def vr (V : Nat → Nat → (Nat → Int32) → Int32) : Prop := ∀ t p nm, 0 ≤ (V t p nm).toInt ∧ (V t p nm).toInt ≤ 99
theorem vr_V {cd : Nat → Int32} {e : Nat → Nat} : vr (y_V cd e) := fun t p nm => cl_i _
theorem hi_14 {k : Nat} (h : k < 6) : loV 14 k = 0 ∧ hiV 14 k = 99 := by unfold loV hiV; simp [h]
theorem hi_15 {k : Nat} (h : k < 6) : loV 15 k = 0 ∧ hiV 15 k = 1 := by unfold loV hiV; simp [h]
theorem hi_16 {k : Nat} (h : k < 8) : loV 16 k = 0 ∧ hiV 16 k = 5 := by unfold loV hiV; simp [h]
theorem hi_17 {k : Nat} (h : k < 8) : loV 17 k = 0 ∧ hiV 17 k = 9 := by unfold loV hiV; simp [h]
theorem hi_18 {k : Nat} (h : k < 8) : loV 18 k = -5 ∧ hiV 18 k = 5 := by unfold loV hiV; simp [h]
theorem hi_19 {k : Nat} (h : k < 8) : loV 19 k = 0 ∧ hiV 19 k = 999 := by unfold loV hiV; simp [h]
theorem hi_20 {k : Nat} (h : k < 8) : loV 20 k = 0 ∧ hiV 20 k = 9 := by unfold loV hiV; simp [h]
theorem hi_21 {k : Nat} (h : k < 8) : loV 21 k = 0 ∧ hiV 21 k = 999 := by unfold loV hiV; simp [h]
theorem hi_2 : loV 2 2 = -2147483648 ∧ hiV 2 2 = 2147483647 ∧ loV 2 3 = 0 ∧ hiV 2 3 = 99 ∧ loV 2 4 = 1 ∧ hiV 2 4 = 9 ∧ loV 2 5 = 0 ∧ hiV 2 5 = 5 ∧ loV 2 6 = 0 ∧ hiV 2 6 = 8 := by unfold loV hiV; decide
theorem gr14 {S : gS} {k : Nat} (h : gr S) (hk : k < 6) : 0 ≤ (S 14 k).toInt ∧ (S 14 k).toInt ≤ 99 := by have := h 14 k; rw [(hi_14 hk).1, (hi_14 hk).2] at this; exact this
theorem gr15 {S : gS} {k : Nat} (h : gr S) (hk : k < 6) : 0 ≤ (S 15 k).toInt ∧ (S 15 k).toInt ≤ 1 := by have := h 15 k; rw [(hi_15 hk).1, (hi_15 hk).2] at this; exact this
theorem gr16 {S : gS} {k : Nat} (h : gr S) (hk : k < 8) : 0 ≤ (S 16 k).toInt ∧ (S 16 k).toInt ≤ 5 := by have := h 16 k; rw [(hi_16 hk).1, (hi_16 hk).2] at this; exact this
theorem gr17 {S : gS} {k : Nat} (h : gr S) (hk : k < 8) : 0 ≤ (S 17 k).toInt ∧ (S 17 k).toInt ≤ 9 := by have := h 17 k; rw [(hi_17 hk).1, (hi_17 hk).2] at this; exact this
theorem gr19 {S : gS} {k : Nat} (h : gr S) (hk : k < 8) : 0 ≤ (S 19 k).toInt ∧ (S 19 k).toInt ≤ 999 := by have := h 19 k; rw [(hi_19 hk).1, (hi_19 hk).2] at this; exact this
theorem gr20 {S : gS} {k : Nat} (h : gr S) (hk : k < 8) : 0 ≤ (S 20 k).toInt ∧ (S 20 k).toInt ≤ 9 := by have := h 20 k; rw [(hi_20 hk).1, (hi_20 hk).2] at this; exact this
theorem gr21 {S : gS} {k : Nat} (h : gr S) (hk : k < 8) : 0 ≤ (S 21 k).toInt ∧ (S 21 k).toInt ≤ 999 := by have := h 21 k; rw [(hi_21 hk).1, (hi_21 hk).2] at this; exact this
/-- what one tends is not below nothing, and not much -/
theorem div4 {x : Int32} (h : 0 ≤ x.toInt) : (x / 4).toInt = x.toInt / 4 := by
  have hd := Int32.toInt_div_of_ne_right (a := x) (b := 4) (by decide)
  rw [hd]
  have e4 : (4 : Int32).toInt = 4 := by decide
  rw [e4]
  exact Int.tdiv_eq_ediv_of_nonneg h
theorem eff_i {S : gS} {p : Nat} {v : Int32} (h : gr S) (hp : p < 8) (hv : 0 ≤ v.toInt ∧ v.toInt ≤ 99) : 0 ≤ (y_eff S p v).toInt ∧ (y_eff S p v).toInt ≤ 300 := by
  have g17 := gr17 h hp
  have g19 := gr19 h hp
  have e2v : (2 * v).toInt = 2 * v.toInt := by rw [i_mul (by rw [i_2]; omega) (by rw [i_2]; omega), i_2]
  have e3 : (3 : Int32).toInt = 3 := by decide
  have d4 := div4 (x := S 19 p) g19.1
  have hif : 0 ≤ (if S 20 p ≤ 0 then (0 : Int32) else v).toInt ∧ (if S 20 p ≤ 0 then (0 : Int32) else v).toInt ≤ 99 := by
    split
    · rw [i_0]; omega
    · exact hv
  unfold y_eff
  repeat' split
  · rw [e2v]; omega
  · rw [i_0]; omega
  · omega
  · rw [mx0_i, i_sub (by omega) (by omega), e2v, d4]; split <;> omega
  · rw [i_add (by rw [i_0]; omega) (by rw [i_0]; omega), i_0]; omega
  · rw [i_add (by omega) (by omega)]; omega
  · rw [mx0_i, i_sub (by omega) (by omega), e3]; split <;> omega
  · omega
theorem gr_grow {V : Nat → Nat → (Nat → Int32) → Int32} {S : gS} {n s : Nat} (hV : vr V) (hg : gw S n) (hs : s < 6) (h : gr S) : gr (y_grow V S s) := by
  have h1 : gr (y_grow1 V S s) := by
    unfold y_grow1
    refine gr_up h ?_
    have g14 := gr14 h hs
    have hv := hV (gR S) 1 (nv S s (who S s))
    generalize V (gR S) 1 (nv S s (who S s)) = v at hv
    rw [(hi_14 hs).1, (hi_14 hs).2, mx0_i]
    have e2v : (2 * v).toInt = 2 * v.toInt := by rw [i_mul (by rw [i_2]; omega) (by rw [i_2]; omega), i_2]
    split
    · rw [i_sub (by omega) (by omega)]; split <;> omega
    · rw [i_sub (by omega) (by omega), e2v]; split <;> omega
  unfold y_grow y_grow2
  cases hw : who S s with
  | none => exact h1
  | some p =>
    dsimp only
    have hpP := (g_fo_lt hw).2.1
    have hp8 : p < 8 := by have := hg.1; omega
    refine gr_up h1 ?_
    have he := eff_i (v := V (gR (y_grow1 V S s)) 0 (nv (y_grow1 V S s) s (some p))) h1 hp8 (hV _ _ _)
    have g14 := gr14 h1 hs
    rw [(hi_14 hs).1, (hi_14 hs).2, mn_i, i_add (by omega) (by omega), i_99]
    split <;> omega
theorem gr_warn {V : Nat → Nat → (Nat → Int32) → Int32} {S : gS} {p s : Nat} (hp : p < 8) (h : gr S) : gr (y_warn V S p s) := by
  have h1 : gr (y_warn1 S p s) := by
    unfold y_warn1
    split
    · exact h
    · refine gr_up h ?_
      have g20 := gr20 h hp
      rw [(hi_20 hp).1, (hi_20 hp).2, mn_i, i_add (by rw [i_1]; omega) (by rw [i_1]; omega), i_1, i_9]
      split <;> omega
  unfold y_warn
  generalize y_warn1 S p s = S1 at h1 ⊢
  have g19 := gr19 h1 hp
  have h2 : gr (upS S1 19 p (mn 999 (S1 19 p + 1))) := by
    refine gr_up h1 ?_
    rw [(hi_19 hp).1, (hi_19 hp).2, mn_i, i_add (by rw [i_1]; omega) (by rw [i_1]; omega), i_1, i_999]
    split <;> omega
  have h5 : loV 18 p ≤ (-5 : Int32).toInt ∧ (-5 : Int32).toInt ≤ hiV 18 p := by
    have e5 : (-5 : Int32).toInt = -5 := by decide
    rw [(hi_18 hp).1, (hi_18 hp).2, e5]; omega
  unfold y_warn2
  repeat' split
  · exact gr_up h2 h5
  · exact h2
  · exact gr_up h1 h5
theorem gr_w {V : Nat → Nat → (Nat → Int32) → Int32} {S : gS} {p : Nat} (hp : p < 8) (h : gr S) : gr (y_w V S p) := by
  unfold y_w
  split
  · exact gr_warn hp h
  · exact h
theorem gr_wait {S : gS} {p : Nat} (hp : p < 8) (h : gr S) : gr (y_wait S p) := by
  unfold y_wait
  split
  · refine gr_up h ?_
    have g21 := gr21 h hp
    rw [(hi_21 hp).1, (hi_21 hp).2, mn_i, i_add (by rw [i_1]; omega) (by rw [i_1]; omega), i_1, i_999]
    split <;> omega
  · exact h
theorem gr_in {S : gS} {p s : Nat} (hp : p < 8) (hs : s < 6) (h : gr S) : gr (y_in S p s) := by
  unfold y_in
  refine gr_up (gr_up (gr_up h ?_) ?_) ?_
  · rw [(hi_18 hp).1, (hi_18 hp).2, nI_toInt (by omega)]; omega
  · rw [(hi_19 hp).1, (hi_19 hp).2, i_0]; omega
  · rw [(hi_20 hp).1, (hi_20 hp).2, i_0]; omega
theorem gr_hand {S : gS} {n s : Nat} (hg : gw S n) (hs : s < 6) (h : gr S) : gr (y_hand S s) := by
  unfold y_hand
  cases who S s with
  | some _ => exact h
  | none =>
    cases hf : y_first S s (gP S) 0 none with
    | none => exact h
    | some p =>
      have hpP := y_first_lt (P := gP S) _ _ _ (by omega) (fun q h => by cases h) p hf
      exact gr_in (by have := hg.1; omega) hs h
theorem gwr_l {n : Nat} {f : gS → Nat → gS} {N : Nat} (hf : ∀ S k, k < N → gw S n → gr S → gw (f S k) n ∧ gr (f S k)) : ∀ (m k : Nat) (S : gS), k + m ≤ N → gw S n → gr S → gw (y_l f m k S) n ∧ gr (y_l f m k S)
  | 0, _, _, _, h, h2 => ⟨h, h2⟩
  | m + 1, k, S, hk, h, h2 => gwr_l hf m (k + 1) (f S k) (by omega) (hf S k (by omega) h h2).1 (hf S k (by omega) h h2).2
theorem gr_year {V : Nat → Nat → (Nat → Int32) → Int32} {S : gS} {n : Nat} (hV : vr V) (hg : gw S n) (h : gr S) : gr (y_year V S) := by
  have h8 := hg.1
  have a1 := gwr_l (n := n) (f := y_grow V) (N := 6) (fun S k hk hS hr => ⟨gw_grow hS, gr_grow hV hS hk hr⟩) 6 0 S (by omega) hg h
  have a2 := gwr_l (n := n) (f := y_w V) (N := gP S) (fun S' k hk hS hr => ⟨gw_w hS, gr_w (by omega) hr⟩) (gP S) 0 _ (by omega) a1.1 a1.2
  have a3 := gwr_l (n := n) (f := y_wait) (N := gP S) (fun S' k hk hS hr => ⟨gw_wait hS, gr_wait (by omega) hr⟩) (gP S) 0 _ (by omega) a2.1 a2.2
  have a4 := gwr_l (n := n) (f := y_hand) (N := 6) (fun S k hk hS hr => ⟨gw_hand hk hS, gr_hand hS hk hr⟩) 6 0 _ (by omega) a3.1 a3.2
  unfold y_year
  refine gr_up a4.2 ?_
  have hr := fb_rng0 ((y_l y_hand 6 0 (y_l y_wait (gP S) 0 (y_l (y_w V) (gP S) 0 (y_l (y_grow V) 6 0 S)))) 2 2 + 1)
  rw [hi_2.1, hi_2.2.1]
  omega
