/-! Tape.split: the tokens, the class's side -/
def fra (μ μ' : si_Mm) : Prop := (∀ a i j, ¬ (a = 5 ∧ i = 0 ∧ j = 2) → μ'.1 a i j = μ.1 a i j) ∧ μ'.2 = μ.2
theorem fra.rf {μ : si_Mm} : fra μ μ := ⟨fun _ _ _ _ => rfl, rfl⟩
theorem fra.tr {μ1 μ2 μ3 : si_Mm} (h : fra μ1 μ2) (g : fra μ2 μ3) : fra μ1 μ3 := ⟨fun a i j e => (g.1 a i j e).trans (h.1 a i j e), g.2.trans h.2⟩
theorem fra.ms {μ : si_Mm} {v : Int32} : fra μ (si_ms μ 5 0 2 v) := ⟨fun a i j e => by rw [ms_eq, if_neg e], rfl⟩
theorem tp_fra {μ μ' : si_Mm} {z : Nat} {f : Nat → Int32} (h : fra μ μ') (ht : tp μ z f) : tp μ' z f := ⟨ht.1, by rw [h.1 5 0 1 (by omega)]; exact ht.2.1, fun i hi => by rw [h.1 25 0 i (by omega)]; exact ht.2.2 i hi⟩
theorem wl_iff {f : Nat → Int32} {b e : Nat} {l : List Int32} : wl f b e = l ↔ (e - b = l.length ∧ ∀ j, j < l.length → f (b + j) = l.getD j 0) := by
  unfold wl
  constructor
  · intro h
    subst h
    refine ⟨by simp, fun j hj => ?_⟩
    simp at hj
    simp [List.getD, hj]
  · intro h
    apply List.ext_getElem
    · simp [h.1]
    · intro i h1 h2
      have := h.2 i h2
      simp [List.getD, h2] at this
      simp [this]
theorem sb_len : ∀ w, w < 12 → si_sl.getD w 0 = (si_sb.getD w []).length ∧ (si_sb.getD w []).length ≤ 6 := by decide +kernel
theorem wcf_t {l : List Int32} {m v : Nat} (h : l = si_sb.getD v []) : wcf l (m + 1) v = cw v := by
  unfold wcf; exact ic_t h
theorem wcf_f {l : List Int32} {m v : Nat} (h : ¬ l = si_sb.getD v []) : wcf l (m + 1) v = wcf l m (v + 1) := by
  conv => lhs; unfold wcf
  exact ic_f h
theorem wcf_split (l : List Int32) : ∀ (m v k : Nat), v + m ≤ 12 → wcf l (m + k) v = if wcf l m v = 1 then wcf l k (v + m) else wcf l m v
  | 0, v, k, _ => by
    have e : wcf l 0 v = 1 := rfl
    rw [e, if_pos rfl, Nat.zero_add, Nat.add_zero]
  | m + 1, v, k, h => by
    have e : m + 1 + k = (m + k) + 1 := by omega
    rw [e]
    by_cases c : l = si_sb.getD v []
    · rw [wcf_t c, wcf_t c, if_neg (cw_ne1 v (by omega))]
    · rw [wcf_f c, wcf_f c]
      have := wcf_split l m (v + 1) k (by omega)
      rw [this]
      have e2 : v + 1 + m = v + (m + 1) := by omega
      rw [e2]
section TS
variable {sc : si_Sc} {d : Nat} {μ : si_Mm} {Q : si_Po} {z : Nat} {f : Nat → Int32} {x : Int32}
theorem p_isL (hq : Q (some (.inl (bc (isL x)))) μ) : si_W sc d 63 0 [some (.inl x)] [] μ Q := by
  refine k_X5_isLetter_0 ⟨fun h1 => ⟨b0, ?_⟩, fun h1 => ⟨fun h2 => ⟨b0, ?_⟩, fun h2 => ⟨b1, ?_⟩⟩⟩
  · rw [bc_f (fun a => i_nlt.mpr a.1 h1)] at hq; exact hq
  · rw [bc_f (fun a => i_nlt.mpr a.2 h2)] at hq; exact hq
  · have c : isL x := ⟨i_nlt.mp h1, i_nlt.mp h2⟩
    rw [bc_t c] at hq; exact hq
theorem p_isD (hq : Q (some (.inl (bc (isD x)))) μ) : si_W sc d 68 0 [some (.inl x)] [] μ Q := by
  refine k_X5_isDigit_0 ⟨fun h1 => ⟨b0, ?_⟩, fun h1 => ⟨fun h2 => ⟨b0, ?_⟩, fun h2 => ⟨b1, ?_⟩⟩⟩
  · rw [bc_f (fun a => i_nlt.mpr a.1 h1)] at hq; exact hq
  · rw [bc_f (fun a => i_nlt.mpr a.2 h2)] at hq; exact hq
  · have c : isD x := ⟨i_nlt.mp h1, i_nlt.mp h2⟩
    rw [bc_t c] at hq; exact hq
theorem p_isG (hq : Q (some (.inl (bc (isG x)))) μ) : si_W sc d 70 0 [some (.inl x)] [] μ Q := by
  have yes : isG x → Q (some (.inl 1)) μ := fun c => by rw [bc_t c] at hq; exact hq
  refine k_X5_isSign_0 ⟨fun h1 => ⟨b1, yes (Or.inl h1)⟩, fun h1 => ⟨fun h2 => ⟨b1, yes (Or.inr (Or.inl h2))⟩, fun h2 => ⟨fun h3 => ⟨b1, yes (Or.inr (Or.inr (Or.inl h3)))⟩, fun h3 => ⟨fun h4 => ⟨b1, yes (Or.inr (Or.inr (Or.inr (Or.inl h4))))⟩, fun h4 => ⟨fun h5 => ⟨b1, yes (Or.inr (Or.inr (Or.inr (Or.inr (Or.inl h5)))))⟩, fun h5 => ⟨fun h6 => ⟨b1, yes (Or.inr (Or.inr (Or.inr (Or.inr (Or.inr (Or.inl h6))))))⟩, fun h6 => ⟨fun h7 => ⟨b1, yes (Or.inr (Or.inr (Or.inr (Or.inr (Or.inr (Or.inr (Or.inl h7)))))))⟩, fun h7 => ⟨fun h8 => ⟨b0, ?_⟩, fun h8 => ⟨b1, yes (Or.inr (Or.inr (Or.inr (Or.inr (Or.inr (Or.inr (Or.inr h8)))))))⟩⟩⟩⟩⟩⟩⟩⟩⟩
  have c : ¬ isG x := by
    intro a
    unfold isG at a
    rcases a with a | a | a | a | a | a | a | a
    · exact h1 a
    · exact h2 a
    · exact h3 a
    · exact h4 a
    · exact h5 a
    · exact h6 a
    · exact h7 a
    · exact h8 a
  rw [bc_f c] at hq; exact hq
theorem p_skip : ∀ (m p : Nat) (μ : si_Mm), p + m = z → tp μ z f → μ.1 5 0 2 = nI p → (∀ μ', fra μ μ' → μ'.1 5 0 2 = nI (skp isB f m p) → Q none μ') → si_W sc d 62 0 [some (.inr (.inr (5, 0)))] [] μ Q := by
  intro m
  induction m with
  | zero =>
    intro p μ hp ht ha hq
    have hz := ht.1
    refine k_X5_skipBlanks_0 ⟨fun _ => hq μ fra.rf ha, fun hn => absurd ?_ hn⟩
    rw [ht.2.1, ha, nI_le8 (by omega) (by omega)]; omega
  | succ m ih =>
    intro p μ hp ht ha hq
    have hz := ht.1
    have cp : (nI p).toNatClampNeg = p := nI_c (by omega)
    have hin : vp_in (nI p) 160 := vp_in_nI (by omega) (by omega)
    unfold skp at hq
    have go : isB (f p) → si_W sc d 62 0 [some (.inr (.inr (5, 0)))] [] (si_ms μ 5 0 2 (nI p + 1)) Q := by
      intro hb
      rw [ic_t hb] at hq
      refine ih (p + 1) _ (by omega) (tp_fra fra.ms ht) (by rw [ms_eq, if_pos ⟨rfl, rfl, rfl⟩, nI_1]) fun μ' f' a' => hq μ' (fra.ms.tr f') a'
    refine k_X5_skipBlanks_0 ⟨fun hn => ?_, fun _ => ?_⟩
    · rw [ht.2.1, ha, nI_le8 (by omega) (by omega)] at hn; omega
    · rw [ha, cp, ht.2.2 p (by omega)]
      refine ⟨hin, fun c1 => go (Or.inl c1), fun c1 => ⟨hin, fun c2 => ?_, fun c2 => go (Or.inr c2)⟩⟩
      have c : ¬ isB (f p) := fun a => a.elim c1 c2
      rw [ic_f c] at hq
      exact hq μ fra.rf ha
theorem p_isWordC {w b e : Nat} (hw : w < 12) (ht : tp μ z f) (hbe : b ≤ e) (hez : e ≤ z) (ha : μ.1 5 0 2 = nI e) (hq : Q (some (.inl (bc (wl f b e = si_sb.getD w [])))) μ) : si_W sc d 64 0 [some (.inr (.inr (5, 0))), some (.inr (.inr (90, w))), some (.inl (nI b)), none] [] μ Q := by
  have hz := ht.1
  obtain ⟨hl, hl6⟩ := sb_len w hw
  have lp : ∀ (m i : Nat), i + m = (si_sb.getD w []).length → b + (si_sb.getD w []).length ≤ z → (∀ P : Prop, (P ↔ ∀ j, i ≤ j → j < (si_sb.getD w []).length → f (b + j) = (si_sb.getD w []).getD j 0) → Q (some (.inl (bc P))) μ) → si_W sc d 64 17 [some (.inr (.inr (5, 0))), some (.inr (.inr (90, w))), some (.inl (nI b)), some (.inl (nI i))] [] μ Q := by
    intro m
    induction m with
    | zero =>
      intro i hi hbz hq
      have q1 := hq True ⟨fun _ j h1 h2 => by omega, fun _ => trivial⟩
      rw [bc_t trivial] at q1
      refine k_X5_isWord_17 ⟨fun _ => ⟨b1, q1⟩, fun hn => absurd ?_ hn⟩
      rw [hl, nI_le8 (by omega) (by omega)]; omega
    | succ m ih =>
      intro i hi hbz hq
      refine k_X5_isWord_17 ⟨fun hn => ?_, fun _ => ⟨fun hn => ?_, fun _ => ?_⟩⟩
      · rw [hl, nI_le8 (by omega) (by omega)] at hn; omega
      · rw [ht.2.1, nI_add, nI_le8 (by omega) (by omega)] at hn; omega
      · rw [nI_add, hl, nI_c (by omega), nI_c (by omega), ht.2.2 (b + i) (by omega)]
        refine ⟨vp_in_nI (by omega) (by omega), vp_in_nI (by omega) (by omega), fun c => ?_, fun c => ⟨b0, ?_⟩⟩
        · rw [nI_1]
          refine ih (i + 1) (by omega) hbz fun P hP => hq P ⟨fun hp j h1 h2 => ?_, fun hj => hP.mpr fun j h1 h2 => hj j (by omega) h2⟩
          by_cases ej : j = i
          · rw [ej]; exact c
          · exact hP.mp hp j (by omega) h2
        · have q1 := hq False ⟨fun q => q.elim, fun q => c (q i (Nat.le_refl _) (by omega))⟩
          rw [bc_f id] at q1; exact q1
  refine k_X5_isWord_0 ⟨fun hc => ?_, fun hc => ⟨b0, ?_⟩⟩
  · rw [ha, pk_sub hbe, hl, nI_eq (by omega) (by omega)] at hc
    refine lp _ 0 (Nat.zero_add _) (by omega) fun P hP => ?_
    have : bc P = bc (wl f b e = si_sb.getD w []) := bc_iff (by
      rw [hP, wl_iff]
      exact ⟨fun q => ⟨hc, fun j hj => q j (Nat.zero_le _) hj⟩, fun q j _ hj => q.2 j hj⟩)
    rw [this]; exact hq
  · rw [ha, pk_sub hbe, hl, nI_eq (by omega) (by omega)] at hc
    rw [bc_f (fun q => hc (wl_iff.mp q).1)] at hq; exact hq
theorem cw_v : cw 0 = 201 ∧ cw 1 = 202 ∧ cw 2 = 203 ∧ cw 3 = 204 ∧ cw 4 = 205 ∧ cw 5 = 206 ∧ cw 6 = -1 ∧ cw 7 = -2 ∧ cw 8 = -3 ∧ cw 9 = -4 ∧ cw 10 = -5 ∧ cw 11 = -6 := by decide +kernel
theorem p_keyFrom {b e : Nat} (ht : tp μ z f) (hbe : b ≤ e) (hez : e ≤ z) (ha : μ.1 5 0 2 = nI e) (hq : Q (some (.inl (wcf (wl f b e) 6 0))) μ) : si_W sc (d + 1) 65 0 [some (.inr (.inr (5, 0))), some (.inl (nI b))] [] μ Q := by
  obtain ⟨v0, v1, v2, v3, v4, v5, _⟩ := cw_v
  refine k_X5_keyFrom_0 ⟨by decide, p_isWordC (by decide) ht hbe hez ha (k_X5_keyFrom_7 ⟨fun c0 => ⟨by decide, p_isWordC (by decide) ht hbe hez ha (k_X5_keyFrom_23 ⟨fun c1 => ⟨by decide, p_isWordC (by decide) ht hbe hez ha (k_X5_keyFrom_39 ⟨fun c2 => ⟨by decide, p_isWordC (by decide) ht hbe hez ha (k_X5_keyFrom_55 ⟨fun c3 => ⟨by decide, p_isWordC (by decide) ht hbe hez ha (k_X5_keyFrom_71 ⟨fun c4 => ⟨by decide, p_isWordC (by decide) ht hbe hez ha (k_X5_keyFrom_87 ⟨fun c5 => ?_, fun c5 => ?_⟩)⟩, fun c4 => ?_⟩)⟩, fun c3 => ?_⟩)⟩, fun c2 => ?_⟩)⟩, fun c1 => ?_⟩)⟩, fun c0 => ?_⟩)⟩
  · rw [wcf_f (bc_0 c0), wcf_f (bc_0 c1), wcf_f (bc_0 c2), wcf_f (bc_0 c3), wcf_f (bc_0 c4), wcf_f (bc_0 c5)] at hq; exact hq
  · rw [wcf_f (bc_0 c0), wcf_f (bc_0 c1), wcf_f (bc_0 c2), wcf_f (bc_0 c3), wcf_f (bc_0 c4), wcf_t (bc_n c5), v5] at hq; exact hq
  · rw [wcf_f (bc_0 c0), wcf_f (bc_0 c1), wcf_f (bc_0 c2), wcf_f (bc_0 c3), wcf_t (bc_n c4), v4] at hq; exact hq
  · rw [wcf_f (bc_0 c0), wcf_f (bc_0 c1), wcf_f (bc_0 c2), wcf_t (bc_n c3), v3] at hq; exact hq
  · rw [wcf_f (bc_0 c0), wcf_f (bc_0 c1), wcf_t (bc_n c2), v2] at hq; exact hq
  · rw [wcf_f (bc_0 c0), wcf_t (bc_n c1), v1] at hq; exact hq
  · rw [wcf_t (bc_n c0), v0] at hq; exact hq
theorem p_nameFrom {b e : Nat} (ht : tp μ z f) (hbe : b ≤ e) (hez : e ≤ z) (ha : μ.1 5 0 2 = nI e) (hq : Q (some (.inl (wcf (wl f b e) 6 6))) μ) : si_W sc (d + 1) 66 0 [some (.inr (.inr (5, 0))), some (.inl (nI b))] [] μ Q := by
  obtain ⟨_, _, _, _, _, _, v0, v1, v2, v3, v4, v5⟩ := cw_v
  refine k_X5_nameFrom_0 ⟨by decide, p_isWordC (by decide) ht hbe hez ha (k_X5_nameFrom_7 ⟨fun c0 => ⟨by decide, p_isWordC (by decide) ht hbe hez ha (k_X5_nameFrom_21 ⟨fun c1 => ⟨by decide, p_isWordC (by decide) ht hbe hez ha (k_X5_nameFrom_36 ⟨fun c2 => ⟨by decide, p_isWordC (by decide) ht hbe hez ha (k_X5_nameFrom_51 ⟨fun c3 => ⟨by decide, p_isWordC (by decide) ht hbe hez ha (k_X5_nameFrom_66 ⟨fun c4 => ⟨by decide, p_isWordC (by decide) ht hbe hez ha (k_X5_nameFrom_81 ⟨fun c5 => ?_, fun c5 => ?_⟩)⟩, fun c4 => ?_⟩)⟩, fun c3 => ?_⟩)⟩, fun c2 => ?_⟩)⟩, fun c1 => ?_⟩)⟩, fun c0 => ?_⟩)⟩
  · rw [wcf_f (bc_0 c0), wcf_f (bc_0 c1), wcf_f (bc_0 c2), wcf_f (bc_0 c3), wcf_f (bc_0 c4), wcf_f (bc_0 c5)] at hq; exact hq
  · rw [wcf_f (bc_0 c0), wcf_f (bc_0 c1), wcf_f (bc_0 c2), wcf_f (bc_0 c3), wcf_f (bc_0 c4), wcf_t (bc_n c5), v5] at hq; exact hq
  · rw [wcf_f (bc_0 c0), wcf_f (bc_0 c1), wcf_f (bc_0 c2), wcf_f (bc_0 c3), wcf_t (bc_n c4), v4] at hq; exact hq
  · rw [wcf_f (bc_0 c0), wcf_f (bc_0 c1), wcf_f (bc_0 c2), wcf_t (bc_n c3), v3] at hq; exact hq
  · rw [wcf_f (bc_0 c0), wcf_f (bc_0 c1), wcf_t (bc_n c2), v2] at hq; exact hq
  · rw [wcf_f (bc_0 c0), wcf_t (bc_n c1), v1] at hq; exact hq
  · rw [wcf_t (bc_n c0), v0] at hq; exact hq
theorem p_readWord {b : Nat} (hb : b ≤ z) (ht : tp μ z f) (ha : μ.1 5 0 2 = nI b) (hq : ∀ μ', fra μ μ' → μ'.1 5 0 2 = nI (wE f z b) → Q (some (.inl (wc (wl f b (wE f z b))))) μ') : si_W sc (d + 2) 67 0 [some (.inr (.inr (5, 0))), none, none] [] μ Q := by
  have hz := ht.1
  have fin : ∀ (e : Nat) (μ' : si_Mm), fra μ μ' → μ'.1 5 0 2 = nI e → e = wE f z b → si_W sc (d + 1) 65 0 [some (.inr (.inr (5, 0))), some (.inl (nI b))] [] μ' (fun rv μq => si_W sc (d + 2) 67 49 [some (.inr (.inr (5, 0))), some (.inl (nI b)), none] (si_rt rv []) μq Q) := by
    intro e μ' f' a' he
    have h2 := skp_le (P := isL) (f := f) (z - b) b
    have hb1 : b ≤ e := by rw [he]; exact h2.1
    have hb2 : e ≤ z := by rw [he]; unfold wE; omega
    have ht' := tp_fra f' ht
    have q1 := hq μ' f' (by rw [← he]; exact a')
    rw [← he] at q1
    unfold wc at q1
    rw [wcf_split _ 6 0 6 (by decide)] at q1
    refine p_keyFrom ht' hb1 hb2 a' (k_X5_readWord_49 ⟨fun c => p_nameFrom ht' hb1 hb2 a' (k_X5_readWord_64 ?_), fun c => k_X5_readWord_64 ?_⟩)
    · rw [if_pos c] at q1; exact q1
    · rw [if_neg c] at q1; exact q1
  have lp : ∀ (m p : Nat) (μ' : si_Mm), p + m = z → b ≤ p → fra μ μ' → μ'.1 5 0 2 = nI p → skp isL f m p = wE f z b → si_W sc (d + 2) 67 5 [some (.inr (.inr (5, 0))), some (.inl (nI b)), none] [] μ' Q := by
    intro m
    induction m with
    | zero =>
      intro p μ' hp hbp f' a' he
      have ht' := tp_fra f' ht
      refine k_X5_readWord_5 ⟨fun _ => fin p μ' f' a' he, fun hn => absurd ?_ hn⟩
      rw [ht'.2.1, a', nI_le8 (by omega) (by omega)]; omega
    | succ m ih =>
      intro p μ' hp hbp f' a' he
      have ht' := tp_fra f' ht
      have cp : (nI p).toNatClampNeg = p := nI_c (by omega)
      unfold skp at he
      refine k_X5_readWord_5 ⟨fun hn => ?_, fun _ => ?_⟩
      · rw [ht'.2.1, a', nI_le8 (by omega) (by omega)] at hn; omega
      · rw [a', cp, ht'.2.2 p (by omega)]
        refine ⟨vp_in_nI (by omega) (by omega), p_isL (k_X5_readWord_28 ⟨fun c => ?_, fun c => ?_⟩)⟩
        · rw [ic_f (bc_0 c)] at he
          exact fin p μ' f' a' he
        · rw [ic_t (bc_n c)] at he
          rw [a']
          exact ih (p + 1) _ (by omega) (by omega) (f'.tr fra.ms) (by rw [ms_eq, if_pos ⟨rfl, rfl, rfl⟩, nI_1]) he
  refine k_X5_readWord_0 ?_
  rw [ha]
  exact lp (z - b) b μ (by omega) (Nat.le_refl _) fra.rf ha rfl
/-- but for where it is read, and the worth of token k, all is as it was -/
def frw (k : Nat) (μ μ' : si_Mm) : Prop := (∀ a i j, ¬ (a = 5 ∧ i = 0 ∧ j = 2) → ¬ (a = 28 ∧ i = 0 ∧ j = k) → μ'.1 a i j = μ.1 a i j) ∧ μ'.2 = μ.2
theorem frw.of {k : Nat} {μ μ' : si_Mm} (h : fra μ μ') : frw k μ μ' := ⟨fun a i j e _ => h.1 a i j e, h.2⟩
theorem p_readNumber {b k : Nat} (hb : b ≤ z) (ht : tp μ z f) (ha : μ.1 5 0 2 = nI b) (hk : μ.1 5 0 6 = nI k) (hk2 : k ≤ 160) (hq : ∀ μ', frw k μ μ' → μ'.1 5 0 2 = nI (nE f z b) → μ'.1 28 0 k = nval f (nE f z b - b) b 0 → Q (some (.inl (ic (nE f z b - b ≤ 4) 2 1))) μ') : si_W sc (d + 2) 69 0 [some (.inr (.inr (5, 0))), none, none] [] μ Q := by
  have hz := ht.1
  have ck : (nI k).toNatClampNeg = k := nI_c (by omega)
  have e161 : Int32.ofNat 161 = nI 161 := rfl
  have e4 : (4 : Int32) = nI 4 := rfl
  have fin : ∀ (e : Nat) (v : Int32) (μ' : si_Mm), fra μ μ' → μ'.1 5 0 2 = nI e → e = nE f z b → v = nval f (nE f z b - b) b 0 → (((Int32.ofNat 161) ≤ (μ'.1 5 0 6) → ((4 < ((μ'.1 5 0 2) - nI b) → Q (some (.inl 1)) μ') ∧ (¬ 4 < ((μ'.1 5 0 2) - nI b) → Q (some (.inl 2)) μ'))) ∧ (¬ (Int32.ofNat 161) ≤ (μ'.1 5 0 6) → (vp_in (μ'.1 5 0 6) 161 ∧ ((4 < (((si_ms μ' 28 0 (μ'.1 5 0 6).toNatClampNeg v).1 5 0 2) - nI b) → Q (some (.inl 1)) (si_ms μ' 28 0 (μ'.1 5 0 6).toNatClampNeg v)) ∧ (¬ 4 < (((si_ms μ' 28 0 (μ'.1 5 0 6).toNatClampNeg v).1 5 0 2) - nI b) → Q (some (.inl 2)) (si_ms μ' 28 0 (μ'.1 5 0 6).toNatClampNeg v)))))) := by
    intro e v μ' f' a' he hv
    have h2 := skp_le (P := isD) (f := f) (z - b) b
    have hb1 : b ≤ e := by rw [he]; exact h2.1
    have hb2 : e ≤ z := by rw [he]; unfold nE; omega
    have k' : μ'.1 5 0 6 = nI k := (f'.1 5 0 6 (by omega)).trans hk
    rw [k', ck]
    have e2 : (si_ms μ' 28 0 k v).1 5 0 2 = nI e := by rw [ms_eq, if_neg (by omega)]; exact a'
    rw [e2, pk_sub hb1, e4, nI_lt8 (by omega) (by omega)]
    have q1 := hq (si_ms μ' 28 0 k v) ⟨fun a i j n1 n2 => by rw [ms_eq, if_neg n2]; exact f'.1 a i j n1, f'.2⟩ (by rw [← he]; exact e2) (by rw [ms_eq, if_pos ⟨rfl, rfl, rfl⟩]; exact hv)
    rw [← he] at q1
    refine ⟨fun hn => ?_, fun _ => ⟨vp_in_nI (by omega) (by omega), fun c => ?_, fun c => ?_⟩⟩
    · rw [e161, nI_le8 (by omega) (by omega)] at hn; omega
    · have c' : ¬ e - b ≤ 4 := by omega
      rw [ic_f c'] at q1; exact q1
    · have c' : e - b ≤ 4 := by omega
      rw [ic_t c'] at q1; exact q1
  have lp : ∀ (m p : Nat) (v : Int32) (μ' : si_Mm), p + m = z → b ≤ p → fra μ μ' → μ'.1 5 0 2 = nI p → skp isD f m p = nE f z b → nval f (nE f z b - p) p v = nval f (nE f z b - b) b 0 → si_W sc (d + 2) 69 7 [some (.inr (.inr (5, 0))), some (.inl (nI b)), some (.inl v)] [] μ' Q := by
    intro m
    induction m with
    | zero =>
      intro p v μ' hp hbp f' a' he hv
      have ht' := tp_fra f' ht
      have he' : p = nE f z b := he
      have hv' : v = nval f (nE f z b - b) b 0 := by rw [← hv, ← he', Nat.sub_self]; rfl
      refine k_X5_readNumber_7 ⟨fun _ => fin p v μ' f' a' he' hv', fun hn => absurd ?_ hn⟩
      rw [ht'.2.1, a', nI_le8 (by omega) (by omega)]; omega
    | succ m ih =>
      intro p v μ' hp hbp f' a' he hv
      have ht' := tp_fra f' ht
      have cp : (nI p).toNatClampNeg = p := nI_c (by omega)
      unfold skp at he
      refine k_X5_readNumber_7 ⟨fun hn => ?_, fun _ => ?_⟩
      · rw [ht'.2.1, a', nI_le8 (by omega) (by omega)] at hn; omega
      · rw [a', cp, ht'.2.2 p (by omega)]
        refine ⟨vp_in_nI (by omega) (by omega), p_isD (k_X5_readNumber_30 ⟨fun c => ?_, fun c => ?_⟩)⟩
        · rw [ic_f (bc_0 c)] at he
          have hv' : v = nval f (nE f z b - b) b 0 := by rw [← hv, ← he, Nat.sub_self]; rfl
          exact fin p v μ' f' a' he hv'
        · rw [ic_t (bc_n c)] at he
          rw [a', cp, ht'.2.2 p (by omega)]
          have h3 := skp_le (P := isD) (f := f) m (p + 1)
          rw [he] at h3
          refine ⟨vp_in_nI (by omega) (by omega), ih (p + 1) _ _ (by omega) (by omega) (f'.tr fra.ms) (by rw [ms_eq, if_pos ⟨rfl, rfl, rfl⟩, nI_1]) he ?_⟩
          rw [← hv]
          have e3 : nE f z b - p = (nE f z b - (p + 1)) + 1 := by omega
          rw [e3]
          rfl
  refine k_X5_readNumber_0 ?_
  rw [ha]
  exact lp (z - b) b 0 μ (by omega) (Nat.le_refl _) fra.rf ha rfl rfl
theorem p_readSign {b : Nat} (hb : b < z) (ht : tp μ z f) (ha : μ.1 5 0 2 = nI b) (hq : ∀ μ', fra μ μ' → μ'.1 5 0 2 = nI (b + 1) → Q (some (.inl (ic (isG (f b)) (f b) 1))) μ') : si_W sc (d + 1) 71 0 [some (.inr (.inr (5, 0))), none] [] μ Q := by
  have hz := ht.1
  have cb : (nI b).toNatClampNeg = b := nI_c (by omega)
  refine k_X5_readSign_0 ?_
  rw [ha, cb, ht.2.2 b hb]
  have q1 := hq (si_ms μ 5 0 2 (nI b + 1)) fra.ms (by rw [ms_eq, if_pos ⟨rfl, rfl, rfl⟩, nI_1])
  refine ⟨vp_in_nI (by omega) (by omega), p_isG (k_X5_readSign_24 ⟨fun c => ?_, fun c => ?_⟩)⟩
  · rw [ic_f (bc_0 c)] at q1; exact q1
  · rw [ic_t (bc_n c)] at q1; exact q1
/-- the first k tokens stand -/
def tks (μ : si_Mm) (f : Nat → Int32) (z k : Nat) : Prop := ∀ j, j < k → μ.1 26 0 j = TT f z j ∧ μ.1 27 0 j = nI (BB f z j) ∧ (TT f z j = 2 → μ.1 28 0 j = WW f z j)
def fr5 (μ μ' : si_Mm) : Prop := (∀ a i, a ≠ 5 → a ≠ 26 → a ≠ 27 → a ≠ 28 → μ'.1 a i = μ.1 a i) ∧ μ'.1 5 0 1 = μ.1 5 0 1 ∧ μ'.2 = μ.2
theorem fr5.rf {μ : si_Mm} : fr5 μ μ := ⟨fun _ _ _ _ _ _ => rfl, rfl, rfl⟩
theorem fr5.tr {μ1 μ2 μ3 : si_Mm} (h : fr5 μ1 μ2) (g : fr5 μ2 μ3) : fr5 μ1 μ3 := ⟨fun a i e1 e2 e3 e4 => (g.1 a i e1 e2 e3 e4).trans (h.1 a i e1 e2 e3 e4), g.2.1.trans h.2.1, g.2.2.trans h.2.2⟩
theorem fr5.fw {k : Nat} {μ μ' : si_Mm} (h : frw k μ μ') : fr5 μ μ' := ⟨fun a i e1 _ _ e4 => by funext j; exact h.1 a i j (fun q => e1 q.1) (fun q => e4 q.1), h.1 5 0 1 (by omega) (by omega), h.2⟩
theorem fr5.fa {μ μ' : si_Mm} (h : fra μ μ') : fr5 μ μ' := fr5.fw (frw.of (k := 0) h)
theorem tp_5 {μ μ' : si_Mm} (h : fr5 μ μ') (ht : tp μ z f) : tp μ' z f := ⟨ht.1, h.2.1.trans ht.2.1, fun i hi => by rw [h.1 25 0 (by decide) (by decide) (by decide) (by decide)]; exact ht.2.2 i hi⟩
theorem p_keep {k : Nat} {v y : Int32} (hk : μ.1 5 0 6 = nI k) (hk2 : k ≤ 160) (hq : ∀ μ', fr5 μ μ' → (∀ j, j ≠ k → μ'.1 26 0 j = μ.1 26 0 j ∧ μ'.1 27 0 j = μ.1 27 0 j) → μ'.1 28 0 = μ.1 28 0 → μ'.1 26 0 k = v → μ'.1 27 0 k = y → μ'.1 5 0 2 = μ.1 5 0 2 → μ'.1 5 0 6 = nI (k + 1) → Q none μ') : si_W sc d 72 0 [some (.inr (.inr (5, 0))), some (.inl v), some (.inl y)] [] μ Q := by
  have ck : (nI k).toNatClampNeg = k := nI_c (by omega)
  have e161 : Int32.ofNat 161 = nI 161 := rfl
  refine k_X5_keep_0 ⟨fun hn => ?_, fun _ => ?_⟩
  · rw [hk, e161, nI_le8 (by omega) (by omega)] at hn; omega
  · rw [hk, ck]
    have e1 : (si_ms μ 26 0 k v).1 5 0 6 = nI k := by rw [ms_eq, if_neg (by omega)]; exact hk
    rw [e1, ck]
    have e2 : (si_ms (si_ms μ 26 0 k v) 27 0 k y).1 5 0 6 = nI k := by rw [ms_eq, if_neg (by omega)]; exact e1
    rw [e2, nI_1]
    refine ⟨vp_in_nI (by omega) (by omega), vp_in_nI (by omega) (by omega), hq _ ⟨fun a i a1 a2 a3 _ => ?_, ?_, rfl⟩ (fun j hj => ⟨?_, ?_⟩) ?_ ?_ ?_ ?_ ?_⟩
    · rw [si_ms_ne _ _ _ (fun q => a1 (congrArg Prod.fst q)), si_ms_ne _ _ _ (fun q => a3 (congrArg Prod.fst q)), si_ms_ne _ _ _ (fun q => a2 (congrArg Prod.fst q))]
    · rw [ms_eq, if_neg (by omega), ms_eq, if_neg (by omega), ms_eq, if_neg (by omega)]
    · rw [ms_eq, if_neg (by omega), ms_eq, if_neg (by omega), ms_eq, if_neg (by omega)]
    · rw [ms_eq, if_neg (by omega), ms_eq, if_neg (by omega), ms_eq, if_neg (by omega)]
    · funext j; rw [ms_eq, if_neg (by omega), ms_eq, if_neg (by omega), ms_eq, if_neg (by omega)]
    · rw [ms_eq, if_neg (by omega), ms_eq, if_neg (by omega), ms_eq, if_pos ⟨rfl, rfl, rfl⟩]
    · rw [ms_eq, if_neg (by omega), ms_eq, if_pos ⟨rfl, rfl, rfl⟩]
    · rw [ms_eq, if_neg (by omega), ms_eq, if_neg (by omega), ms_eq, if_neg (by omega)]
    · rw [ms_eq, if_pos ⟨rfl, rfl, rfl⟩]
set_option maxHeartbeats 1000000 in
theorem p_split (ht : tp μ z f) (hq : ∀ μ' nt, NT f z nt → fr5 μ μ' → tks μ' f z (nt + 1) → μ'.1 5 0 6 = nI (nt + 1) → Q none μ') : si_W sc (d + 3) 73 0 [some (.inr (.inr (5, 0))), none, none, none] [] μ Q := by
  have hz := ht.1
  have e160 : (160 : Int32) = nI 160 := rfl
  have lp : ∀ (m k : Nat) (μ1 : si_Mm) (u2 u3 : Option si_AV), k + m = 160 → fr5 μ μ1 → tks μ1 f z k → μ1.1 5 0 2 = nI (lb f z (en f z k)) → μ1.1 5 0 6 = nI k → (∀ j, j < k → lb f z (en f z j) < z) → si_W sc (d + 3) 73 16 [some (.inr (.inr (5, 0))), some (.inl (nI k)), u2, u3] [] μ1 Q := by
    have fin : ∀ (k : Nat) (μ1 : si_Mm) (u2 u3 : Option si_AV), k ≤ 160 → fr5 μ μ1 → tks μ1 f z k → μ1.1 5 0 6 = nI k → (∀ j, j < k → lb f z (en f z j) < z) → z ≤ lb f z (en f z k) → si_W sc (d + 2) 72 0 [some (.inr (.inr (5, 0))), some (.inl 0), some (.inl (μ1.1 5 0 1))] [] μ1 (fun rv μq => si_W sc (d + 3) 73 113 [some (.inr (.inr (5, 0))), some (.inl (nI k)), u2, u3] (si_rt rv []) μq Q) := by
      intro k μ1 u2 u3 hk f1 t1 n1 hj he
      have hNT : NT f z k := ⟨hk, hj, he⟩
      refine p_keep n1 hk fun μ2 f2 g1 g2 g3 g4 g5 g6 => k_X5_split_113 (hq μ2 k hNT (f1.tr f2) (fun j hj2 => ?_) g6)
      by_cases ej : j = k
      · subst ej
        have eT : TT f z j = 0 := by unfold TT lT; exact ic_t he
        have eB : BB f z j = z := by unfold BB lB; exact ic_t he
        refine ⟨g3.trans eT.symm, ?_, fun e2 => ?_⟩
        · rw [g4, eB]; exact (tp_5 f1 ht).2.1
        · rw [eT] at e2; exact absurd e2 (by decide)
      · obtain ⟨t2, t3, t4⟩ := t1 j (by omega)
        exact ⟨(g1 j ej).1.trans t2, (g1 j ej).2.trans t3, fun e2 => by rw [g2]; exact t4 e2⟩
    intro m
    induction m with
    | zero =>
      intro k μ1 u2 u3 hk f1 t1 a1 n1 hj
      have he : z ≤ lb f z (en f z k) := by
        have h1 := en_ge k hj
        have h2 := en_le (f := f) (z := z) k
        have h3 := (lb_le (f := f) h2).1
        omega
      refine k_X5_split_16 ⟨fun _ => fin k μ1 u2 u3 (by omega) f1 t1 n1 hj he, fun hn => absurd ?_ hn⟩
      rw [e160, nI_le8 (by omega) (by omega)]; omega
    | succ m ih =>
      intro k μ1 u2 u3 hk f1 t1 a1 n1 hj
      have ht1 := tp_5 f1 ht
      have hble := (lb_le (f := f) (en_le (f := f) (z := z) k)).2
      refine k_X5_split_16 ⟨fun hn => ?_, fun _ => ⟨fun hn => ?_, fun hn => ?_⟩⟩
      · rw [e160, nI_le8 (by omega) (by omega)] at hn; omega
      · rw [ht1.2.1, a1, nI_le8 (by omega) (by omega)] at hn
        exact fin k μ1 u2 u3 (by omega) f1 t1 n1 hj hn
      · rw [ht1.2.1, a1, nI_le8 (by omega) (by omega)] at hn
        have hb : lb f z (en f z k) < z := by omega
        have hbn : ¬ z ≤ lb f z (en f z k) := hn
        have eT : TT f z k = ic (isL (f (lb f z (en f z k)))) (wc (wl f (lb f z (en f z k)) (wE f z (lb f z (en f z k))))) (ic (isD (f (lb f z (en f z k)))) (ic (nE f z (lb f z (en f z k)) - lb f z (en f z k) ≤ 4) 2 1) (ic (isG (f (lb f z (en f z k)))) (f (lb f z (en f z k))) 1)) := by unfold TT lT; exact ic_f hbn
        have eB : BB f z k = lb f z (en f z k) := by unfold BB lB; exact ic_f hbn
        have eE : en f z (k + 1) = ic (isL (f (lb f z (en f z k)))) (wE f z (lb f z (en f z k))) (ic (isD (f (lb f z (en f z k)))) (nE f z (lb f z (en f z k))) (lb f z (en f z k) + 1)) := by show lE f z (en f z k) = _; unfold lE; exact ic_f hbn
        have eW : WW f z k = nval f (nE f z (lb f z (en f z k)) - lb f z (en f z k)) (lb f z (en f z k)) 0 := rfl
        generalize lb f z (en f z k) = b at hb hbn eT eB eE eW a1 hble hn
        have cb : (nI b).toNatClampNeg = b := nI_c (by omega)
        have done : ∀ (v : Int32) (μ2 : si_Mm) (u3 : Option si_AV), v = TT f z k → frw k μ1 μ2 → (TT f z k = 2 → μ2.1 28 0 k = WW f z k) → μ2.1 5 0 2 = nI (en f z (k + 1)) → si_W sc (d + 3) 73 87 [some (.inr (.inr (5, 0))), some (.inl (nI k)), some (.inl (nI b)), u3] [.inl v] μ2 Q := by
          intro v μ2 u3 hv f2 w2 a2
          have n2 : μ2.1 5 0 6 = nI k := (f2.1 5 0 6 (by omega) (by omega)).trans n1
          refine k_X5_split_87 (p_keep n2 (by omega) fun μ3 f3 g1 g2 g3 g4 g5 g6 => k_X5_split_94 ?_)
          have f13 := (f1.tr (fr5.fw f2)).tr f3
          have ht3 := tp_5 f13 ht
          refine p_skip (z - en f z (k + 1)) (en f z (k + 1)) μ3 (by have := en_le (f := f) (z := z) (k + 1); omega) ht3 (g5.trans a2) fun μ4 f4 a4 => k_X5_split_98 ?_
          rw [nI_1]
          refine ih (k + 1) μ4 _ _ (by omega) (f13.tr (fr5.fa f4)) (fun j hj2 => ?_) a4 ?_ (fun j hj2 => ?_)
          · rw [f4.1 26 0 j (by omega), f4.1 27 0 j (by omega), f4.1 28 0 j (by omega), g2]
            by_cases ej : j = k
            · subst ej
              exact ⟨g3.trans hv, by rw [g4, eB], w2⟩
            · obtain ⟨t2, t3, t4⟩ := t1 j (by omega)
              rw [(g1 j ej).1, (g1 j ej).2, f2.1 26 0 j (by omega) (by omega), f2.1 27 0 j (by omega) (by omega), f2.1 28 0 j (by omega) (by omega)]
              exact ⟨t2, t3, t4⟩
          · rw [f4.1 5 0 6 (by omega)]; exact g6
          · by_cases ej : j = k
            · subst ej
              have q := eB
              unfold BB lB at q
              by_cases hc : z ≤ lb f z (en f z j)
              · rw [ic_t hc] at q; omega
              · omega
            · exact hj j (by omega)
        rw [a1, cb, ht1.2.2 b hb]
        refine ⟨vp_in_nI (by omega) (by omega), p_isL (k_X5_split_51 ⟨fun c1 => ?_, fun c1 => ?_⟩)⟩
        · rw [ic_f (bc_0 c1)] at eT eE
          rw [a1, cb, ht1.2.2 b hb]
          refine ⟨vp_in_nI (by omega) (by omega), p_isD (k_X5_split_73 ⟨fun c2 => ?_, fun c2 => ?_⟩)⟩
          · rw [ic_f (bc_0 c2)] at eT eE
            refine p_readSign hb ht1 a1 fun μ2 f2 a2 => ?_
            rw [← eT]
            refine done _ μ2 _ rfl (frw.of f2) (fun e2 => ?_) (by rw [eE]; exact a2)
            exfalso
            rw [eT] at e2
            by_cases g : isG (f b)
            · rw [ic_t g] at e2
              rw [e2] at g
              exact absurd g (by unfold isG; decide)
            · rw [ic_f g] at e2; exact absurd e2 (by decide)
          · rw [ic_t (bc_n c2)] at eT eE
            refine p_readNumber (k := k) (by omega) ht1 a1 n1 (by omega) fun μ2 f2 a2 w2 => k_X5_split_80 ?_
            rw [← eT]
            exact done _ μ2 _ rfl f2 (fun _ => w2.trans eW.symm) (by rw [eE]; exact a2)
        · rw [ic_t (bc_n c1)] at eT eE
          refine p_readWord (by omega) ht1 a1 fun μ2 f2 a2 => k_X5_split_58 ?_
          rw [← eT]
          refine done _ μ2 _ rfl (frw.of f2) (fun e2 => ?_) (by rw [eE]; exact a2)
          exfalso
          rw [eT] at e2
          rcases wc_or (wl f b (wE f z b)) with ⟨w, hw, e3⟩ | ⟨e3, _⟩
          · rw [e3, wc_b w hw] at e2
            have : ∀ i, i < 12 → cw i ≠ 2 := by decide +kernel
            exact this w hw e2
          · rw [e3] at e2; exact absurd e2 (by decide)
  have f0 : fr5 μ (si_ms (si_ms μ 5 0 2 0) 5 0 6 0) := ⟨fun a i a1 _ _ _ => by rw [si_ms_ne _ _ _ (fun q => a1 (congrArg Prod.fst q)), si_ms_ne _ _ _ (fun q => a1 (congrArg Prod.fst q))], by rw [ms_eq, if_neg (by omega), ms_eq, if_neg (by omega)], rfl⟩
  refine k_X5_split_0 (p_skip z 0 _ (by omega) (tp_5 f0 ht) (by rw [ms_eq, if_neg (by omega), ms_eq, if_pos ⟨rfl, rfl, rfl⟩]; rfl) fun μ1 f1 a1 => k_X5_split_14 (lp 160 0 μ1 _ _ (by omega) (f0.tr (fr5.fa f1)) (fun j hj => absurd hj (Nat.not_lt_zero j)) a1 ?_ (fun j hj => absurd hj (Nat.not_lt_zero j))))
  rw [f1.1 5 0 6 (by omega), ms_eq, if_pos ⟨rfl, rfl, rfl⟩]; rfl
end TS
