/-! the tokens of a tape: bytes f, z of them -/
def isL (b : Int32) : Prop := 97 ≤ b ∧ b ≤ 122
def isD (b : Int32) : Prop := 48 ≤ b ∧ b ≤ 57
def isB (b : Int32) : Prop := b = 32 ∨ b = 10
def isG (b : Int32) : Prop := b = 40 ∨ b = 41 ∨ b = 59 ∨ b = 43 ∨ b = 45 ∨ b = 42 ∨ b = 60 ∨ b = 61
/-- from p on, m at most, as long as P holds -/
noncomputable def skp (P : Int32 → Prop) (f : Nat → Int32) : Nat → Nat → Nat
  | 0, p => p
  | m + 1, p => ic (P (f p)) (skp P f m (p + 1)) p
noncomputable def lb (f : Nat → Int32) (z p : Nat) : Nat := skp isB f (z - p) p
noncomputable def wE (f : Nat → Int32) (z b : Nat) : Nat := skp isL f (z - b) b
noncomputable def nE (f : Nat → Int32) (z b : Nat) : Nat := skp isD f (z - b) b
def wl (f : Nat → Int32) (b e : Nat) : List Int32 := (List.range (e - b)).map (fun i => f (b + i))
/-- the codes of the twelve words -/
def cw (w : Nat) : Int32 := if w < 6 then nI (201 + w) else -(nI (w - 5))
noncomputable def wcf (l : List Int32) : Nat → Nat → Int32
  | 0, _ => 1
  | m + 1, w => ic (l = si_sb.getD w []) (cw w) (wcf l m (w + 1))
noncomputable def wc (l : List Int32) : Int32 := wcf l 12 0
def nval (f : Nat → Int32) : Nat → Nat → Int32 → Int32
  | 0, _, a => a
  | m + 1, p, a => nval f m (p + 1) (a * 10 + f p - 48)
noncomputable def lT (f : Nat → Int32) (z p : Nat) : Int32 := ic (z ≤ lb f z p) 0 (ic (isL (f (lb f z p))) (wc (wl f (lb f z p) (wE f z (lb f z p)))) (ic (isD (f (lb f z p))) (ic (nE f z (lb f z p) - lb f z p ≤ 4) 2 1) (ic (isG (f (lb f z p))) (f (lb f z p)) 1)))
noncomputable def lB (f : Nat → Int32) (z p : Nat) : Nat := ic (z ≤ lb f z p) z (lb f z p)
noncomputable def lE (f : Nat → Int32) (z p : Nat) : Nat := ic (z ≤ lb f z p) (lb f z p) (ic (isL (f (lb f z p))) (wE f z (lb f z p)) (ic (isD (f (lb f z p))) (nE f z (lb f z p)) (lb f z p + 1)))
noncomputable def lW (f : Nat → Int32) (z p : Nat) : Int32 := nval f (nE f z (lb f z p) - lb f z p) (lb f z p) 0
noncomputable def en (f : Nat → Int32) (z : Nat) : Nat → Nat
  | 0 => 0
  | k + 1 => lE f z (en f z k)
noncomputable def TT (f : Nat → Int32) (z k : Nat) : Int32 := lT f z (en f z k)
noncomputable def BB (f : Nat → Int32) (z k : Nat) : Nat := lB f z (en f z k)
noncomputable def WW (f : Nat → Int32) (z k : Nat) : Int32 := lW f z (en f z k)
/-- nt tokens, and then the end -/
def NT (f : Nat → Int32) (z nt : Nat) : Prop := nt ≤ 160 ∧ (∀ k, k < nt → lb f z (en f z k) < z) ∧ z ≤ lb f z (en f z nt)
theorem skp_le {P : Int32 → Prop} {f : Nat → Int32} : ∀ (m p : Nat), p ≤ skp P f m p ∧ skp P f m p ≤ p + m
  | 0, p => ⟨Nat.le_refl _, Nat.le_refl _⟩
  | m + 1, p => by
    unfold skp
    by_cases h : P (f p)
    · rw [ic_t h]; have := skp_le (P := P) (f := f) m (p + 1); omega
    · rw [ic_f h]; omega
theorem skp_in {P : Int32 → Prop} {f : Nat → Int32} : ∀ (m p i : Nat), p ≤ i → i < skp P f m p → P (f i)
  | 0, p, i, h1, h2 => by unfold skp at h2; omega
  | m + 1, p, i, h1, h2 => by
    unfold skp at h2
    by_cases h : P (f p)
    · rw [ic_t h] at h2
      rcases Nat.eq_or_lt_of_le h1 with e | e
      · rw [← e]; exact h
      · exact skp_in m (p + 1) i e h2
    · rw [ic_f h] at h2; omega
theorem skp_end {P : Int32 → Prop} {f : Nat → Int32} : ∀ (m p : Nat), skp P f m p < p + m → ¬ P (f (skp P f m p))
  | 0, p, h2 => by unfold skp at h2; omega
  | m + 1, p, h2 => by
    unfold skp at h2 ⊢
    by_cases h : P (f p)
    · rw [ic_t h] at h2 ⊢
      exact skp_end m (p + 1) (by omega)
    · rw [ic_f h] at h2 ⊢; exact h
theorem skp_pos {P : Int32 → Prop} {f : Nat → Int32} {m p : Nat} (hm : 0 < m) (h : P (f p)) : p < skp P f m p := by
  obtain ⟨m', rfl⟩ : ∃ m', m = m' + 1 := ⟨m - 1, by omega⟩
  unfold skp
  rw [ic_t h]
  have := skp_le (P := P) (f := f) m' (p + 1)
  omega
theorem lE_lt {f : Nat → Int32} {z p : Nat} (h : lb f z p < z) : lb f z p < lE f z p ∧ lE f z p ≤ z := by
  have hn : ¬ z ≤ lb f z p := by omega
  unfold lE
  rw [ic_f hn]
  generalize lb f z p = b at h
  by_cases h1 : isL (f b)
  · rw [ic_t h1]
    have a1 := skp_pos (m := z - b) (by omega) h1
    have a2 := skp_le (P := isL) (f := f) (z - b) b
    unfold wE
    omega
  · rw [ic_f h1]
    by_cases h2 : isD (f b)
    · rw [ic_t h2]
      have a1 := skp_pos (m := z - b) (by omega) h2
      have a2 := skp_le (P := isD) (f := f) (z - b) b
      unfold nE
      omega
    · rw [ic_f h2]; omega
theorem lb_le {f : Nat → Int32} {z p : Nat} (hp : p ≤ z) : p ≤ lb f z p ∧ lb f z p ≤ z := by
  have := skp_le (P := isB) (f := f) (z - p) p
  unfold lb; omega
theorem en_le {f : Nat → Int32} {z : Nat} : ∀ k, en f z k ≤ z
  | 0 => Nat.zero_le _
  | k + 1 => by
    have h := en_le (f := f) (z := z) k
    have h2 := lb_le (f := f) h
    by_cases e : z ≤ lb f z (en f z k)
    · show lE f z (en f z k) ≤ z
      unfold lE; rw [ic_t e]; exact h2.2
    · exact (lE_lt (by omega)).2
theorem en_ge {f : Nat → Int32} {z : Nat} : ∀ k, (∀ j, j < k → lb f z (en f z j) < z) → k ≤ en f z k
  | 0, _ => Nat.zero_le _
  | k + 1, h => by
    have h1 := en_ge k (fun j hj => h j (by omega))
    have h2 := (lE_lt (h k (by omega))).1
    have h3 := (lb_le (f := f) (en_le (f := f) (z := z) k)).1
    show k + 1 ≤ lE f z (en f z k)
    omega
theorem NT_T0 {f : Nat → Int32} {z nt : Nat} (h : NT f z nt) : ∀ k, nt ≤ k → TT f z k = 0 := by
  have e : ∀ j, z ≤ lb f z (en f z (nt + j)) := by
    intro j
    induction j with
    | zero => exact h.2.2
    | succ j ih =>
      show z ≤ lb f z (lE f z (en f z (nt + j)))
      unfold lE; rw [ic_t ih]
      exact Nat.le_trans ih (lb_le (lb_le (en_le _)).2).1
  intro k hk
  have := e (k - nt)
  rw [show nt + (k - nt) = k by omega] at this
  unfold TT lT
  rw [ic_t this]
theorem NT_ex (f : Nat → Int32) (z : Nat) (hz : z ≤ 160) : ∃ nt, NT f z nt := by
  have key : ∀ m k, k + m = 161 → (∀ j, j < k → lb f z (en f z j) < z) → ∃ nt, NT f z nt := by
    intro m
    induction m with
    | zero =>
      intro k hk hj
      have := en_ge k hj
      have := en_le (f := f) (z := z) k
      omega
    | succ m ih =>
      intro k hk hj
      by_cases e : z ≤ lb f z (en f z k)
      · exact ⟨k, by omega, hj, e⟩
      · refine ih (k + 1) (by omega) (fun j hj2 => ?_)
        by_cases e2 : j = k
        · subst e2; omega
        · exact hj j (by omega)
  exact key 161 0 (by omega) (fun j hj => absurd hj (Nat.not_lt_zero j))
theorem NT_un {f : Nat → Int32} {z n1 n2 : Nat} (h1 : NT f z n1) (h2 : NT f z n2) : n1 = n2 := by
  rcases Nat.lt_trichotomy n1 n2 with e | e | e
  · have a := h2.2.1 n1 e; have b := h1.2.2; omega
  · exact e
  · have a := h1.2.1 n2 e; have b := h2.2.2; omega
theorem wc_b : ∀ w, w < 12 → wc (si_sb.getD w []) = cw w := by
  intro w hw
  have hd : ∀ i, i < 12 → ∀ j, j < 12 → i ≠ j → si_sb.getD i [] ≠ si_sb.getD j [] := by decide +kernel
  have key : ∀ m v, v + m = 12 → v ≤ w → wcf (si_sb.getD w []) m v = cw w := by
    intro m
    induction m with
    | zero => intro v hv hle; omega
    | succ m ih =>
      intro v hv hle
      unfold wcf
      by_cases e : v = w
      · subst e; rw [ic_t rfl]
      · rw [ic_f (hd w hw v (by omega) (fun q => e q.symm))]
        exact ih (v + 1) (by omega) (by omega)
  exact key 12 0 (by omega) (by omega)
theorem wc_or (l : List Int32) : (∃ w, w < 12 ∧ l = si_sb.getD w []) ∨ (wc l = 1 ∧ ∀ w, w < 12 → l ≠ si_sb.getD w []) := by
  have key : ∀ m v, v + m = 12 → (∃ w, w < 12 ∧ l = si_sb.getD w []) ∨ (wcf l m v = 1 ∧ ∀ w, v ≤ w → w < 12 → l ≠ si_sb.getD w []) := by
    intro m
    induction m with
    | zero => exact fun v hv => Or.inr ⟨rfl, fun w h1 h2 => by omega⟩
    | succ m ih =>
      intro v hv
      by_cases e : l = si_sb.getD v []
      · exact Or.inl ⟨v, by omega, e⟩
      · rcases ih (v + 1) (by omega) with h | h
        · exact Or.inl h
        · right
          unfold wcf
          rw [ic_f e]
          refine ⟨h.1, fun w h1 h2 => ?_⟩
          by_cases e2 : w = v
          · rw [e2]; exact e
          · exact h.2 w (by omega) h2
  rcases key 12 0 (by omega) with h | h
  · exact Or.inl h
  · exact Or.inr ⟨h.1, fun w hw => h.2 w (by omega) hw⟩
theorem cw_inj : ∀ i, i < 12 → ∀ j, j < 12 → cw i = cw j → i = j := by decide +kernel
theorem cw_ne1 : ∀ i, i < 12 → cw i ≠ 1 := by decide +kernel
theorem wc_iff {l : List Int32} {w : Nat} (hw : w < 12) : wc l = cw w ↔ l = si_sb.getD w [] := by
  constructor
  · intro h
    rcases wc_or l with ⟨v, hv, e⟩ | ⟨e, _⟩
    · rw [e, wc_b v hv] at h
      rw [e, cw_inj v hv w hw h]
    · rw [e] at h; exact absurd h.symm (cw_ne1 w hw)
  · intro h; rw [h]; exact wc_b w hw
