/-! beyond its length an array of the made world is nothing -/
def Z1 (e : di_E) : Prop := match e with
  | .inl (_, n, f) => ∀ k, n ≤ k → f k = 0
  | .inr _ => True
def Zd (wd : List di_E) : Prop := ∀ (q : Nat) (e : di_E), wd[q]? = some e → Z1 e
def ZP (rec : Nat → Nat → Nat → si_Lv → List si_AV → List di_E → Option di_Re) : Prop := ∀ d j pc lv st wd r, rec d j pc lv st wd = some r → Zd wd → Zd r.2.2.1
theorem Zd.set {wd : List di_E} {q : Nat} {e : di_E} (h : Zd wd) (he : Z1 e) : Zd (wd.set q e) := by
  intro i e' hi
  rw [List.getElem?_set] at hi
  split at hi
  · split at hi
    · cases hi; exact he
    · cases hi
  · exact h i e' hi
theorem Zd.app {wd : List di_E} {e : di_E} (h : Zd wd) (he : Z1 e) : Zd (wd ++ [e]) := by
  intro i e' hi
  by_cases c : i < wd.length
  · rw [List.getElem?_append_left c] at hi; exact h i e' hi
  · rw [List.getElem?_append_right (by omega)] at hi
    cases hk : i - wd.length with
    | zero => rw [hk] at hi; cases hi; exact he
    | succ m => rw [hk] at hi; cases hi
section ZL
variable {st : List si_AV} {lv : si_Lv} {wd : List di_E} {r : di_Re} {q i : Nat}
theorem z_pI {k : Int32 → List si_AV → Option di_Re} (h : di_pI st k = some r) : ∃ x s, k x s = some r := by
  unfold di_pI at h
  split at h
  · exact ⟨_, _, h⟩
  · cases h
theorem z_pR {k : Nat → Nat → List si_AV → Option di_Re} (h : di_pR st k = some r) : ∃ a b s, k a b s = some r := by
  unfold di_pR at h
  split at h
  · exact ⟨_, _, _, h⟩
  · cases h
theorem z_p1 {k : si_AV → List si_AV → Option di_Re} (h : di_p1 st k = some r) : ∃ x s, k x s = some r := by
  unfold di_p1 at h
  split at h
  · exact ⟨_, _, h⟩
  · exact ⟨_, _, h⟩
  · cases h
theorem z_lI {k : Int32 → Option di_Re} (h : di_lI lv i k = some r) : ∃ x, k x = some r := by
  unfold di_lI at h
  split at h
  · exact ⟨_, h⟩
  · cases h
theorem z_lR {k : Nat → Nat → Option di_Re} (h : di_lR lv i k = some r) : ∃ a b, k a b = some r := by
  unfold di_lR at h
  split at h
  · exact ⟨_, _, h⟩
  · cases h
theorem z_take {k : List si_AV → List si_AV → Option di_Re} : ∀ (n : Nat) (st acc : List si_AV), di_take n st acc k = some r → ∃ a s, k a s = some r
  | 0, st, acc, h => ⟨_, _, h⟩
  | n + 1, [], acc, h => by rw [di_take] at h; cases h
  | n + 1, v :: st, acc, h => z_take n st (v :: acc) (by rw [di_take] at h; exact h)
theorem z_arr {k : Nat → Nat → (Nat → Int32) → Option di_Re} (h : di_arr wd q k = some r) : ∃ a n f, wd[q]? = some (.inl (a, n, f)) ∧ k a n f = some r := by
  unfold di_arr at h
  split at h
  · rename_i e; exact ⟨_, _, _, e, h⟩
  · cases h
theorem z_obj {k : Nat → List (Option si_AV) → Option di_Re} (h : di_obj wd q k = some r) : ∃ c fs, k c fs = some r := by
  unfold di_obj at h
  split at h
  · exact ⟨_, _, h⟩
  · cases h
theorem z_cnt {c s : Nat} {o : Option di_Re} (h : di_cnt c s o = some r) : ∃ r', o = some r' ∧ r.2.2.1 = r'.2.2.1 := by
  unfold di_cnt at h
  split at h
  · cases h; exact ⟨_, rfl, rfl⟩
  · cases h
theorem z_bind {o : Option di_Re} {k : List di_E → Option di_Re} (h : di_bind o k = some r) : ∃ r1 r', o = some r1 ∧ k r1.2.2.1 = some r' ∧ r.2.2.1 = r'.2.2.1 := by
  unfold di_bind at h
  split at h
  · obtain ⟨r', h1, h2⟩ := z_cnt h
    exact ⟨_, r', rfl, h1, h2⟩
  · cases h
theorem z_b {b : Bool} {o : Option di_Re} (h : (bif b then o else none) = some r) : b = true ∧ o = some r := by
  cases b with
  | true => exact ⟨rfl, h⟩
  | false => cases h
theorem z_if {b : Bool} {o o' : Option di_Re} (h : (bif b then o else o') = some r) : o = some r ∨ o' = some r := by
  cases b with
  | true => exact Or.inl h
  | false => exact Or.inr h
end ZL
theorem z_inv {rec : Nat → Nat → Nat → si_Lv → List si_AV → List di_E → Option di_Re} (hr : ZP rec) {d j b pc : Nat} {lv lv2 : si_Lv} {st : List si_AV} {wd : List di_E} {r : di_Re} (h : (match d with
          | 0 => none
          | d' + 1 => di_bind (rec d' b 0 lv2 [] wd) fun w1 => bif Nat.ble wd.length w1.length then rec d j pc lv st w1 else none) = some r) (hz : Zd wd) : Zd r.2.2.1 := by
  cases d with
  | zero => cases h
  | succ d' =>
    obtain ⟨r1, r', h1, h2, h3⟩ := z_bind h
    rw [h3]
    exact hr _ _ _ _ _ _ _ (z_b h2).2 (hr _ _ _ _ _ _ _ h1 hz)
set_option maxHeartbeats 4000000 in
theorem z_st {rec : Nat → Nat → Nat → si_Lv → List si_AV → List di_E → Option di_Re} (hr : ZP rec) : ZP (di_st rec) := by
  intro d j pc lv st wd r h hz
  unfold di_st at h
  cases hb : (Nat.beq j 234 && Nat.beq pc 16) with
  | true =>
    rw [hb, cond_true] at h
    split at h
    · cases h; exact hz
    · cases h
  | false =>
    rw [hb, cond_false] at h
    split at h
    · cases h
    · split at h
      · exact hr _ _ _ _ _ _ _ h hz
      · exact hr _ _ _ _ _ _ _ h hz
      · exact hr _ _ _ _ _ _ _ h hz
      · obtain ⟨x, h⟩ := z_lI h; exact hr _ _ _ _ _ _ _ h hz
      · obtain ⟨x, h⟩ := z_lI h; exact hr _ _ _ _ _ _ _ h hz
      · obtain ⟨x, y, h⟩ := z_lR h; exact hr _ _ _ _ _ _ _ h hz
      · obtain ⟨x, y, h⟩ := z_pI h; exact hr _ _ _ _ _ _ _ (z_b h).2 hz
      · obtain ⟨x, y, z, h⟩ := z_pR h; exact hr _ _ _ _ _ _ _ (z_b h).2 hz
      · obtain ⟨x, h⟩ := z_lI h; exact hr _ _ _ _ _ _ _ (z_b h).2 hz
      · obtain ⟨x, y, h⟩ := z_pI h; obtain ⟨x, y, h⟩ := z_pI h; exact hr _ _ _ _ _ _ _ h hz
      · obtain ⟨x, y, h⟩ := z_p1 h; exact hr _ _ _ _ _ _ _ h hz
      · exact hr _ _ _ _ _ _ _ h hz
      · obtain ⟨x, y, h⟩ := z_pI h; obtain ⟨x, y, h⟩ := z_pI h
        split at h
        · exact hr _ _ _ _ _ _ _ h hz
        · exact hr _ _ _ _ _ _ _ h hz
      · obtain ⟨x, y, z, h⟩ := z_pR h; obtain ⟨x, y, h⟩ := z_obj h
        have h := (z_b h).2
        split at h
        · exact hr _ _ _ _ _ _ _ h hz
        · cases h
      · obtain ⟨x, y, h⟩ := z_p1 h; obtain ⟨x, y, z, h⟩ := z_pR h; obtain ⟨x, y, h⟩ := z_obj h
        exact hr _ _ _ _ _ _ _ (z_b h).2 (hz.set trivial)
      · obtain ⟨x, y, h⟩ := z_pI h; obtain ⟨x2, y2, h⟩ := z_pI h; obtain ⟨x3, y3, z3, h⟩ := z_pR h; obtain ⟨a1, n1, f1, e1, h⟩ := z_arr h
        obtain ⟨hb, h⟩ := z_b h
        refine hr _ _ _ _ _ _ _ h (hz.set ?_)
        have z := hz _ _ e1
        rw [Bool.and_eq_true, Bool.and_eq_true, Bool.and_eq_true] at hb
        have hlt := Nat.le_of_ble_eq_true hb.2.2.2
        intro k hk
        rw [pk_un (by omega)]; exact z k hk
      · obtain ⟨x, y, z, h⟩ := z_pR h; obtain ⟨a1, n1, f1, e1, h⟩ := z_arr h
        exact hr _ _ _ _ _ _ _ (z_b h).2 hz
      · obtain ⟨x, y, h⟩ := z_pI h
        obtain ⟨r', h1, h2⟩ := z_cnt (z_b h).2
        rw [h2]; exact hr _ _ _ _ _ _ _ h1 (hz.app (fun _ _ => rfl))
      · obtain ⟨r', h1, h2⟩ := z_cnt (z_b h).2
        rw [h2]; exact hr _ _ _ _ _ _ _ h1 (hz.app trivial)
      · rcases z_if h with h | h
        · obtain ⟨x, y, z, h⟩ := z_pR h; exact hr _ _ _ _ _ _ _ (z_b h).2 hz
        · obtain ⟨x, y, h⟩ := z_take _ _ _ h; obtain ⟨x, y, z, h⟩ := z_pR h
          exact z_inv hr (z_b h).2 hz
      · obtain ⟨x, y, h⟩ := z_take _ _ _ h; obtain ⟨x, y, z, h⟩ := z_pR h; obtain ⟨x, y, h⟩ := z_obj h
        exact z_inv hr (z_b h).2 hz
      · obtain ⟨x, y, h⟩ := z_take _ _ _ h
        exact z_inv hr (z_b h).2 hz
      · split at h
        · cases h; exact hz
        · cases h
      · cases h
theorem z_run : ∀ n, ZP (di_run n)
  | 0 => fun _ _ _ _ _ _ _ h _ => by cases h
  | n + 1 => z_st (z_run n)
theorem z_of {n d j pc pe k s : Nat} {lv le : si_Lv} {st : List si_AV} {wd w : List di_E} (h : di_run n d j pc lv st wd = some (pe, le, w, k, s)) (hz : Zd wd) : Zd w := z_run n _ _ _ _ _ _ _ h hz
theorem z_nil : Zd [] := fun q e h => by cases h
theorem z_all : Zd di_WD := z_of di_all_e z_nil
noncomputable def m0_len (tt i n : Nat) : Bool := match di_WD[di_ix tt i]? with
  | some (.inl (_, n', _)) => Nat.ble n' n
  | some (.inr (_, fs)) => Nat.ble fs.length n
  | none => true
theorem m0_z {tt i n : Nat} (h : m0_len tt i n = true) {k : Nat} (hk : n ≤ k) : mu_0.1 tt i k = 0 := by
  unfold m0_len at h
  unfold mu_0
  dsimp only
  split
  · rename_i e
    rw [e] at h
    exact z_all _ _ e k (Nat.le_trans (Nat.le_of_ble_eq_true h) hk)
  · rename_i fs e
    rw [e] at h
    have hl : fs.length ≤ k := Nat.le_trans (Nat.le_of_ble_eq_true h) hk
    rw [List.getElem?_eq_none hl]
  · rfl
