/-! what the reference asks of the token at hand -/
section RB
variable {sc : si_Sc} {d : Nat} {μ : si_Mm} {Q : si_Po} {f : Nat → Int32} {z fr k : Nat}
theorem AT.cs (h : AT f z k μ) : (TT f z k = 0 ∧ μ.1 7 0 24 = 0) ∨ (lb f z (en f z k) < z ∧ isL (f (lb f z (en f z k))) ∧ μ.1 7 0 24 = 1 ∧ μ.1 7 0 23 = nI (wE f z (lb f z (en f z k))) ∧ TT f z k = wc (wl f (lb f z (en f z k)) (wE f z (lb f z (en f z k)))) ∧ en f z (k + 1) = wE f z (lb f z (en f z k)) ∧ BB f z k = lb f z (en f z k)) ∨ (TT f z k = 2 ∧ μ.1 7 0 24 = 2 ∧ μ.1 7 0 23 = nI (en f z (k + 1)) ∧ μ.2 = (WW f z k).toInt64 ∧ 0 ≤ (WW f z k).toInt) ∨ (isG (TT f z k) ∧ μ.1 7 0 24 = 3 ∧ μ.1 7 0 23 = nI (en f z (k + 1)) ∧ μ.2 = (TT f z k).toInt64) ∨ (TT f z k = 1 ∧ μ.1 7 0 24 = 4) := by
  obtain ⟨_, _, h⟩ := h
  unfold tkR at h
  have eT : TT f z k = ic (z ≤ lb f z (en f z k)) 0 (ic (isL (f (lb f z (en f z k)))) (wc (wl f (lb f z (en f z k)) (wE f z (lb f z (en f z k))))) (ic (isD (f (lb f z (en f z k)))) (ic (nE f z (lb f z (en f z k)) - lb f z (en f z k) ≤ 4) 2 1) (ic (isG (f (lb f z (en f z k)))) (f (lb f z (en f z k))) 1))) := rfl
  have eE : en f z (k + 1) = ic (z ≤ lb f z (en f z k)) (lb f z (en f z k)) (ic (isL (f (lb f z (en f z k)))) (wE f z (lb f z (en f z k))) (ic (isD (f (lb f z (en f z k)))) (nE f z (lb f z (en f z k))) (lb f z (en f z k) + 1))) := rfl
  have eB : BB f z k = ic (z ≤ lb f z (en f z k)) z (lb f z (en f z k)) := rfl
  have eW : WW f z k = nval f (nE f z (lb f z (en f z k)) - lb f z (en f z k)) (lb f z (en f z k)) 0 := rfl
  generalize lb f z (en f z k) = b at *
  by_cases c1 : z ≤ b
  · rw [ic_t c1] at h eT
    exact Or.inl ⟨eT, h⟩
  rw [ic_f c1] at h eT eE eB
  by_cases c2 : isL (f b)
  · rw [ic_t c2] at h eT eE
    exact Or.inr (Or.inl ⟨by omega, c2, h.1, h.2, eT, eE, eB⟩)
  rw [ic_f c2] at h eT eE
  by_cases c3 : isD (f b)
  · rw [ic_t c3] at h eT eE
    by_cases c4 : nE f z b - b ≤ 4
    · rw [ic_t c4] at h eT
      refine Or.inr (Or.inr (Or.inl ⟨eT, h.1, by rw [eE]; exact h.2.1, h.2.2, ?_⟩))
      have hd : ∀ i, i < nE f z b - b → isD (f (b + i)) := fun i hi => skp_in (z - b) b (b + i) (by omega) (by unfold nE at hi; omega)
      have hlt := nvN_lt _ hd
      have : 10 ^ (nE f z b - b) ≤ 10 ^ 4 := Nat.pow_le_pow_right (by decide) c4
      rw [eW, nval_N _ hd, nI_toInt (by omega)]
      omega
    · rw [ic_f c4] at h eT
      exact Or.inr (Or.inr (Or.inr (Or.inr ⟨eT, h⟩)))
  rw [ic_f c3] at h eT eE
  by_cases c4 : isG (f b)
  · rw [ic_t c4] at h eT
    exact Or.inr (Or.inr (Or.inr (Or.inl ⟨by rw [eT]; exact c4, h.1, by rw [eE]; exact h.2.1, by rw [eT]; exact h.2.2⟩)))
  · rw [ic_f c4] at h eT
    exact Or.inr (Or.inr (Or.inr (Or.inr ⟨eT, h⟩)))
theorem isG_c {x : Int32} (h : isG x) : 40 ≤ x.toInt ∧ x.toInt ≤ 61 := by
  unfold isG at h
  rcases h with rfl | rfl | rfl | rfl | rfl | rfl | rfl | rfl <;> decide
theorem cw_r : ∀ w, w < 12 → (cw w).toInt < 0 ∨ 201 ≤ (cw w).toInt := by decide +kernel
theorem wc_r (l : List Int32) : wc l = 1 ∨ ∃ w, w < 12 ∧ wc l = cw w ∧ l = si_sb.getD w [] := by
  rcases wc_or l with ⟨w, hw, e⟩ | ⟨e, _⟩
  · exact Or.inr ⟨w, hw, by rw [e]; exact wc_b w hw, e⟩
  · exact Or.inl e
/-- where a token is taken, the next begins -/
theorem AT.nx (h : AT f z k μ) (h0 : TT f z k ≠ 0) (h1 : TT f z k ≠ 1) : μ.1 7 0 23 = nI (en f z (k + 1)) := by
  rcases h.cs with q | q | q | q | q
  · exact absurd q.1 h0
  · rw [q.2.2.2.2.2.1]; exact q.2.2.2.1
  · exact q.2.2.1
  · exact q.2.2.1
  · exact absurd q.1 h1
theorem r_isSign {s : Int32} (hs : isG s) (h : AT f z k μ) (hq : Q (some (.inl (bi (TT f z k = s)))) μ) : si_W sc d 141 0 [some (.inr (.inr (7, 0))), some (.inl s)] [] μ Q := by
  have hr := isG_c hs
  have no : TT f z k ≠ s → Q (some (.inl 0)) μ := fun c => by rw [bi_f c] at hq; exact hq
  refine k_X7_isSign_0 ⟨fun c => absurd h.1 c, fun _ => ⟨fun c => ⟨b0, no fun e => ?_⟩, fun c => ?_⟩⟩
  · rcases h.cs with q | q | q | q | q
    · rw [q.1] at e; rw [← e, i_0] at hr; omega
    · rw [q.2.2.2.2.1] at e
      rcases wc_r (wl f (lb f z (en f z k)) (wE f z (lb f z (en f z k)))) with w1 | ⟨w, hw, w1, _⟩
      · rw [w1] at e; rw [← e, i_1] at hr; omega
      · rw [w1] at e; have := cw_r w hw; rw [e] at this; omega
    · rw [q.1] at e; rw [← e, i_2] at hr; omega
    · exact c q.2.1
    · rw [q.1] at e; rw [← e, i_1] at hr; omega
  · rcases h.cs with q | q | q | q | q
    · rw [q.2] at c; exact absurd c (by decide)
    · rw [q.2.2.1] at c; exact absurd c (by decide)
    · rw [q.2.1] at c; exact absurd c (by decide)
    · rw [lg_cmp_eq, q.2.2.2]
      have e : (TT f z k).toInt64 = s.toInt64 ↔ TT f z k = s := by rw [← Int64.toInt_inj, Int32.toInt_toInt64, Int32.toInt_toInt64, i_eq]
      rw [e]
      exact ⟨fun c2 => ⟨b0, no c2⟩, fun c2 => ⟨b1, by rw [bi_t c2] at hq; exact hq⟩⟩
    · rw [q.2] at c; exact absurd c (by decide)
theorem r_isLetter {b e i : Nat} {x : Int32} (h : TS μ f z fr) (hb : μ.1 7 0 25 = nI b) (he : μ.1 7 0 23 = nI e) (hez : e ≤ z) (hbz : b ≤ z) (hi : i ≤ 8) (hq : Q (some (.inl (bc (if b + i < e then f (b + i) = x else x = 0)))) μ) : si_W sc (d + 1) 137 0 [some (.inr (.inr (7, 0))), some (.inl (nI i)), some (.inl x)] [] μ Q := by
  have hz := h.2.2.1
  refine k_X7_isLetter_0 ⟨fun c => ?_, fun c => ?_⟩
  · rw [hb, he, nI_add, nI_le8 (by omega) (by omega)] at c
    rw [if_neg (by omega)] at hq
    refine ⟨fun c2 => ⟨b0, ?_⟩, fun c2 => ⟨b1, ?_⟩⟩
    · rw [bc_f c2] at hq; exact hq
    · rw [bc_t c2] at hq; exact hq
  · rw [hb, he, nI_add, nI_le8 (by omega) (by omega)] at c
    rw [if_pos (by omega)] at hq
    rw [hb, nI_add]
    refine r_byteAt h (by omega) ?_
    rw [if_pos (by omega)]
    refine k_X7_isLetter_23 ⟨fun c2 => ⟨b0, ?_⟩, fun c2 => ⟨b1, ?_⟩⟩
    · rw [bc_f c2] at hq; exact hq
    · rw [bc_t c2] at hq; exact hq
theorem sb_nz : ∀ w, w < 12 → ∀ i, i < (si_sb.getD w []).length → (si_sb.getD w []).getD i 0 ≠ 0 := by decide +kernel
theorem getD_out {l : List Int32} {i : Nat} (h : l.length ≤ i) : l.getD i 0 = 0 := by simp [List.getD, h]
/-- eight letters, 0 behind the word's end -/
theorem w8 {b e w : Nat} (hw : w < 12) (hL : ∀ i, b ≤ i → i < e → isL (f i)) : wl f b e = si_sb.getD w [] ↔ (e ≤ b + 8 ∧ ∀ i, i < 8 → (if b + i < e then f (b + i) = (si_sb.getD w []).getD i 0 else (si_sb.getD w []).getD i 0 = 0)) := by
  have h6 := (sb_len w hw).2
  have nz := sb_nz w hw
  have fz : ∀ i, b ≤ i → i < e → f i ≠ 0 := fun i h1 h2 h0 => by
    have := hL i h1 h2
    rw [h0] at this
    exact absurd this (by unfold isL; decide)
  rw [wl_iff]
  constructor
  · intro h
    refine ⟨by omega, fun i hi => ?_⟩
    by_cases c : b + i < e
    · rw [if_pos c]; exact h.2 i (by omega)
    · rw [if_neg c]; exact getD_out (by omega)
  · intro h
    have h1 : e - b = (si_sb.getD w []).length := by
      rcases Nat.lt_trichotomy (e - b) (si_sb.getD w []).length with q | q | q
      · exfalso
        have := h.2 (e - b) (by omega)
        rw [if_neg (by omega)] at this
        exact nz _ q this
      · exact q
      · exfalso
        have := h.2 (si_sb.getD w []).length (by omega)
        rw [if_pos (by omega), getD_out (Nat.le_refl _)] at this
        exact fz _ (by omega) (by omega) this
    refine ⟨h1, fun j hj => ?_⟩
    have := h.2 j (by omega)
    rw [if_pos (by omega)] at this
    exact this
set_option maxHeartbeats 1000000 in
theorem r_isW {w : Nat} {x0 x1 x2 x3 x4 x5 x6 x7 : Int32} (hw : w < 12) (hx : [x0, x1, x2, x3, x4, x5, x6, x7] = (List.range 8).map (fun i => (si_sb.getD w []).getD i 0)) (ht : TS μ f z fr) (h : AT f z k μ) (hq : Q (some (.inl (bi (TT f z k = cw w)))) μ) : si_W sc (d + 2) 138 0 [some (.inr (.inr (7, 0))), some (.inl x0), some (.inl x1), some (.inl x2), some (.inl x3), some (.inl x4), some (.inl x5), some (.inl x6), some (.inl x7)] [] μ Q := by
  have no : ¬ TT f z k = cw w → Q (some (.inl 0)) μ := fun c => by rw [bi_f c] at hq; exact hq
  have yes : TT f z k = cw w → Q (some (.inl 1)) μ := fun c => by rw [bi_t c] at hq; exact hq
  have hcr := cw_r w hw
  have hx' : [x0, x1, x2, x3, x4, x5, x6, x7] = [(si_sb.getD w []).getD 0 0, (si_sb.getD w []).getD 1 0, (si_sb.getD w []).getD 2 0, (si_sb.getD w []).getD 3 0, (si_sb.getD w []).getD 4 0, (si_sb.getD w []).getD 5 0, (si_sb.getD w []).getD 6 0, (si_sb.getD w []).getD 7 0] := hx
  injection hx' with e0 hx'
  injection hx' with e1 hx'
  injection hx' with e2 hx'
  injection hx' with e3 hx'
  injection hx' with e4 hx'
  injection hx' with e5 hx'
  injection hx' with e6 hx'
  injection hx' with e7 hx'
  refine k_X7_isWord_0 ⟨fun c => absurd h.1 c, fun _ => ⟨fun c => ⟨b0, no fun e => ?_⟩, fun c => ?_⟩⟩
  · rcases h.cs with q | q | q | q | q
    · rw [q.1] at e; rw [← e, i_0] at hcr; omega
    · exact c q.2.2.1
    · rw [q.1] at e; rw [← e, i_2] at hcr; omega
    · have := isG_c q.1; rw [e] at this; omega
    · rw [q.1] at e; rw [← e, i_1] at hcr; omega
  · rcases h.cs with q | q | q | q | q
    · rw [q.2] at c; exact absurd c (by decide)
    · obtain ⟨q1, q2, q3, q4, q5, q6, q7⟩ := q
      have hz := ht.2.2.1
      have hB := h.2.1
      rw [q7] at hB
      have hen := lE_lt q1
      have hwE : wE f z (lb f z (en f z k)) ≤ z := by
        have := skp_le (P := isL) (f := f) (z - lb f z (en f z k)) (lb f z (en f z k))
        unfold wE; omega
      have hLL : ∀ i, lb f z (en f z k) ≤ i → i < wE f z (lb f z (en f z k)) → isL (f i) := fun i h1 h2 => skp_in _ _ i h1 h2
      have key := w8 (f := f) hw hLL
      rw [q5, wc_iff hw, key] at no yes
      generalize lb f z (en f z k) = b at *
      generalize wE f z b = e at *
      have e8 : (8 : Int32) = nI 8 := rfl
      rw [hB, q4, e8, nI_add, nI_lt8 (by omega) (by omega)]
      refine ⟨fun c8 => ⟨b0, no fun a => by omega⟩, fun c8 => ?_⟩
      have lf : ∀ {i : Nat} {x : Int32}, i < 8 → x = (si_sb.getD w []).getD i 0 → bc (if b + i < e then f (b + i) = x else x = 0) = 0 → Q (some (.inl 0)) μ := fun {i x} hi ex hc => no fun a => bc_0 hc (by rw [ex]; exact a.2 i hi)
      refine r_isLetter (i := 0) ht hB q4 (by omega) (by omega) (by omega) (k_X7_isWord_35 ⟨fun c0 => ⟨b0, lf (by omega) e0 c0⟩, fun c0 => ?_⟩)
      refine r_isLetter (i := 1) ht hB q4 (by omega) (by omega) (by omega) (k_X7_isWord_44 ⟨fun c1 => ⟨b0, lf (by omega) e1 c1⟩, fun c1 => ?_⟩)
      refine r_isLetter (i := 2) ht hB q4 (by omega) (by omega) (by omega) (k_X7_isWord_53 ⟨fun c2 => ⟨b0, lf (by omega) e2 c2⟩, fun c2 => ?_⟩)
      refine r_isLetter (i := 3) ht hB q4 (by omega) (by omega) (by omega) (k_X7_isWord_63 ⟨fun c3 => ⟨b0, lf (by omega) e3 c3⟩, fun c3 => ?_⟩)
      refine r_isLetter (i := 4) ht hB q4 (by omega) (by omega) (by omega) (k_X7_isWord_73 ⟨fun c4 => ⟨b0, lf (by omega) e4 c4⟩, fun c4 => ?_⟩)
      refine r_isLetter (i := 5) ht hB q4 (by omega) (by omega) (by omega) (k_X7_isWord_83 ⟨fun c5 => ⟨b0, lf (by omega) e5 c5⟩, fun c5 => ?_⟩)
      refine r_isLetter (i := 6) ht hB q4 (by omega) (by omega) (by omega) (k_X7_isWord_94 ⟨fun c6 => ⟨b0, lf (by omega) e6 c6⟩, fun c6 => ?_⟩)
      refine r_isLetter (i := 7) ht hB q4 (by omega) (by omega) (by omega) (k_X7_isWord_105 ⟨fun c7 => ⟨b0, lf (by omega) e7 c7⟩, fun c7 => ⟨b1, yes ⟨by omega, fun i hi => ?_⟩⟩⟩)
      rcases (show i = 0 ∨ i = 1 ∨ i = 2 ∨ i = 3 ∨ i = 4 ∨ i = 5 ∨ i = 6 ∨ i = 7 by omega) with rfl | rfl | rfl | rfl | rfl | rfl | rfl | rfl
      · rw [← e0]; exact bc_n c0
      · rw [← e1]; exact bc_n c1
      · rw [← e2]; exact bc_n c2
      · rw [← e3]; exact bc_n c3
      · rw [← e4]; exact bc_n c4
      · rw [← e5]; exact bc_n c5
      · rw [← e6]; exact bc_n c6
      · rw [← e7]; exact bc_n c7
    · rw [q.2.1] at c; exact absurd c (by decide)
    · rw [q.2.1] at c; exact absurd c (by decide)
    · rw [q.2] at c; exact absurd c (by decide)
/-- a fault at token k -/
def BD (f : Nat → Int32) (z k : Nat) (μ : si_Mm) : Prop := μ.1 7 0 28 = 1 ∧ μ.1 7 0 29 = nI (BB f z k)
theorem r_fail (h : AT f z k μ) (hq : ∀ μ', fx Jp A0 μ μ' → BD f z k μ' → μ'.1 7 0 27 = μ.1 7 0 27 → Q none μ') : si_W sc d 139 0 [some (.inr (.inr (7, 0)))] [] μ Q := by
  refine k_X7_fail_0 ⟨fun c => absurd h.1 c, fun _ => ⟨b1, hq _ ((fx.p1 (by omega)).tr (fx.p1 (by omega))) ⟨?_, ?_⟩ ?_⟩⟩
  · rw [ms_eq, if_neg (by omega), ms_eq, if_pos ⟨rfl, rfl, rfl⟩]
  · rw [ms_eq, if_pos ⟨rfl, rfl, rfl⟩, ms_eq, if_neg (by omega)]; exact h.2.1
  · rw [ms_eq, if_neg (by omega), ms_eq, if_neg (by omega)]
theorem b_fail (h : BD f z k μ) (hq : Q none μ) : si_W sc d 139 0 [some (.inr (.inr (7, 0)))] [] μ Q := k_X7_fail_0 ⟨fun _ => hq, fun c => by rw [h.1] at c; exact absurd c (by decide)⟩
theorem b_isSign {s : Int32} (h : BD f z k μ) (hq : Q (some (.inl 0)) μ) : si_W sc d 141 0 [some (.inr (.inr (7, 0))), some (.inl s)] [] μ Q := k_X7_isSign_0 ⟨fun _ => ⟨b0, hq⟩, fun c => by rw [h.1] at c; exact absurd c (by decide)⟩
theorem b_isW {x0 x1 x2 x3 x4 x5 x6 x7 : Int32} (h : BD f z k μ) (hq : Q (some (.inl 0)) μ) : si_W sc (d + 1) 138 0 [some (.inr (.inr (7, 0))), some (.inl x0), some (.inl x1), some (.inl x2), some (.inl x3), some (.inl x4), some (.inl x5), some (.inl x6), some (.inl x7)] [] μ Q := k_X7_isWord_0 ⟨fun _ => ⟨b0, hq⟩, fun c => by rw [h.1] at c; exact absurd c (by decide)⟩
theorem r_nextT (ht : TS μ f z fr) (h : AT f z k μ) (h0 : TT f z k ≠ 0) (h1 : TT f z k ≠ 1) (hq : ∀ μ', fx Jp A0 μ μ' → AT f z (k + 1) μ' → μ'.1 7 0 27 = μ.1 7 0 27 → Q none μ') : si_W sc (d + 1) 136 0 [some (.inr (.inr (7, 0))), none, none] [] μ Q :=
  r_next ht h.1 (h.nx h0 h1) fun μ' f' a' => hq μ' f'.np a' (f' 7 0 27 (fun q => by have := Jn_i.mp q.2.2; omega) rfl)
end RB
