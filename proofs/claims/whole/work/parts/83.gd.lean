/-! what codes say, piece by piece; the reference's name(), opens() -/
def Gd (nm : Nat → Int32) (cs : List Int32) (v : Int32) (nd : Nat) : Prop := ∀ q : Nat × (Nat → Int32), q.1 + nd ≤ 64 → ∃ g, evs nm cs q = (q.1 + 1, g) ∧ g q.1 = v ∧ ∀ i, i < q.1 → g i = q.2 i
theorem evs_app {nm : Nat → Int32} {cs ds : List Int32} {q : Nat × (Nat → Int32)} : evs nm (cs ++ ds) q = evs nm ds (evs nm cs q) := List.foldl_append
theorem Gd.mo {nm : Nat → Int32} {cs : List Int32} {v : Int32} {n m : Nat} (h : Gd nm cs v n) (hn : n ≤ m) : Gd nm cs v m := fun q hq => h q (by omega)
theorem Gd_num {nm : Nat → Int32} {c : Int32} (hc : 0 ≤ c) : Gd nm [c] c 1 := by
  intro q hq
  refine ⟨upd q.2 q.1 c, ?_, pk_us, fun i hi => pk_un (by omega)⟩
  show ev_step nm c q = _
  unfold ev_step
  rw [if_pos hc, if_pos (by omega)]
theorem Gd_name {nm : Nat → Int32} {c : Int32} (h0 : ¬ 0 ≤ c) (h6 : ¬ 6 ≤ -1 - c) : Gd nm [c] (nm (-1 - c).toNatClampNeg) 1 := by
  intro q hq
  refine ⟨upd q.2 q.1 (nm (-1 - c).toNatClampNeg), ?_, pk_us, fun i hi => pk_un (by omega)⟩
  show ev_step nm c q = _
  unfold ev_step
  rw [if_neg h0, if_neg h6, if_pos (by omega)]
theorem Gd_neg {nm : Nat → Int32} {cs : List Int32} {v : Int32} {n : Nat} (h : Gd nm cs v n) : Gd nm (cs ++ [-19]) (-v) n := by
  intro q hq
  obtain ⟨g, e, g1, g2⟩ := h q hq
  refine ⟨upd g q.1 (-(g q.1)), ?_, by rw [pk_us, g1], fun i hi => by rw [pk_un (by omega)]; exact g2 i hi⟩
  rw [evs_app, e]
  show ev_step nm (-19) (q.1 + 1, g) = _
  unfold ev_step
  rw [if_neg (by decide), if_pos (by decide), if_neg (by decide), if_pos (by decide)]
  dsimp only
  rw [if_neg (by omega), Nat.add_sub_cancel]
theorem Gd_not {nm : Nat → Int32} {cs : List Int32} {v : Int32} {n : Nat} (h : Gd nm cs v n) : Gd nm (cs ++ [-13]) (bi (v = 0)) n := by
  intro q hq
  obtain ⟨g, e, g1, g2⟩ := h q hq
  refine ⟨upd g q.1 (bi (g q.1 = 0)), ?_, by rw [pk_us]; exact bi_iff (by rw [g1]), fun i hi => by rw [pk_un (by omega)]; exact g2 i hi⟩
  rw [evs_app, e]
  show ev_step nm (-13) (q.1 + 1, g) = _
  unfold ev_step
  rw [if_neg (by decide), if_pos (by decide), if_pos (by decide)]
  dsimp only
  rw [if_neg (by omega), Nat.add_sub_cancel]
theorem Gd_bin {nm : Nat → Int32} {cs ds : List Int32} {v w c : Int32} {n m : Nat} (hc : ¬ 0 ≤ c ∧ 6 ≤ -1 - c ∧ ¬ c = -13 ∧ ¬ c = -19) (h : Gd nm cs v m) (k : Gd nm ds w n) (hnm : n + 1 ≤ m) : Gd nm (cs ++ (ds ++ [c])) (ev_op c v w) m := by
  intro q hq
  obtain ⟨g, e, g1, g2⟩ := h q hq
  obtain ⟨g', e', g1', g2'⟩ := k (q.1 + 1, g) (by show q.1 + 1 + n ≤ 64; omega)
  have s1 : g' (q.1 + 1) = w := g1'
  have s2 : g' q.1 = v := by rw [g2' q.1 (by show q.1 < q.1 + 1; omega)]; exact g1
  refine ⟨upd g' q.1 (ev_op c (g' q.1) (g' (q.1 + 1))), ?_, by rw [pk_us, s1, s2], fun i hi => ?_⟩
  · rw [evs_app, evs_app, e, e']
    show ev_step nm c (q.1 + 1 + 1, g') = _
    unfold ev_step
    rw [if_neg hc.1, if_pos hc.2.1, if_neg hc.2.2.1, if_neg hc.2.2.2]
    dsimp only
    rw [if_neg (by omega), show q.1 + 1 + 1 - 1 = q.1 + 1 by omega, show q.1 + 1 + 1 - 2 = q.1 by omega]
  · rw [pk_un (by omega), g2' i (by show i < q.1 + 1; omega)]; exact g2 i hi
theorem Gd_evl {nm : Nat → Int32} {cs : List Int32} {v : Int32} {n : Nat} (h : Gd nm cs v n) (hn : n ≤ 64) : evl nm cs = v := by
  obtain ⟨g, e, g1, _⟩ := h (0, fun _ => 0) (by show 0 + n ≤ 64; omega)
  unfold evl ev_fin
  rw [e]
  dsimp only
  rw [if_neg (by omega)]
  exact g1
theorem op18 {a b : Int32} : ev_op (-18) a b = a * b := by
  unfold ev_op
  rw [if_neg (by decide), if_neg (by decide), if_neg (by decide), if_neg (by decide), if_neg (by decide), if_neg (by decide), if_neg (by decide)]
theorem op17 {a b : Int32} : ev_op (-17) a b = a - b := by
  unfold ev_op
  rw [if_pos (by decide)]
theorem op16 {a b : Int32} : ev_op (-16) a b = a + b := by
  unfold ev_op
  rw [if_neg (by decide), if_pos (by decide)]
theorem op15 {a b : Int32} : ev_op (-15) a b = bi (a = b) := by
  unfold ev_op
  rw [if_neg (by decide), if_neg (by decide), if_pos (by decide)]
theorem op14 {a b : Int32} : ev_op (-14) a b = bi (a < b) := by
  unfold ev_op
  rw [if_neg (by decide), if_neg (by decide), if_neg (by decide), if_pos (by decide)]
theorem op12 {a b : Int32} : ev_op (-12) a b = bi (a ≠ 0 ∧ b ≠ 0) := by
  unfold ev_op
  rw [if_neg (by decide), if_neg (by decide), if_neg (by decide), if_neg (by decide), if_neg (by decide), if_pos (by decide)]
theorem op11 {a b : Int32} : ev_op (-11) a b = bi (a ≠ 0 ∨ b ≠ 0) := by
  unfold ev_op
  rw [if_neg (by decide), if_neg (by decide), if_neg (by decide), if_neg (by decide), if_neg (by decide), if_neg (by decide), if_pos (by decide)]
theorem cbin : ∀ c : Int32, c = -18 ∨ c = -17 ∨ c = -16 ∨ c = -15 ∨ c = -14 ∨ c = -12 ∨ c = -11 → ¬ 0 ≤ c ∧ 6 ≤ -1 - c ∧ ¬ c = -13 ∧ ¬ c = -19 := by
  intro c h
  rcases h with rfl | rfl | rfl | rfl | rfl | rfl | rfl <;> decide
/-- how a reading of the reference ends -/
def RO (f : Nat → Int32) (z : Nat) (nm : Nat → Int32) (o nd : Nat) (r : PR) (μ μ' : si_Mm) (v : Int32) : Prop := fx Jp A0 μ μ' ∧ match r with
  | (k', some cs) => AT f z k' μ' ∧ μ'.1 7 0 27 = nI o ∧ Gd nm cs v nd
  | (k', none) => BD f z k' μ'
def IN (f : Nat → Int32) (z fr : Nat) (nm : Nat → Int32) (o nt k : Nat) (μ : si_Mm) : Prop := TS μ f z fr ∧ AT f z k μ ∧ μ.1 7 0 27 = nI o ∧ (∀ i, i < 6 → μ.1 7 0 (15 + i) = nm i) ∧ k ≤ nt
def rrS (sc : si_Sc) (f : Nat → Int32) (z fr : Nat) (nm : Nat → Int32) (nt D j : Nat) (ex : List (Option si_AV)) (o nd : Nat) (p : PF) : Prop := ∀ (d : Nat) (μ : si_Mm) (Q : si_Po) (k : Nat), D ≤ d → IN f z fr nm o nt k μ → (∀ μ' v, RO f z nm o nd (p k) μ μ' v → Q (some (.inl v)) μ') → si_W sc d j 0 (some (.inr (.inr (7, 0))) :: ex) [] μ Q
theorem rrS.mo {sc : si_Sc} {f : Nat → Int32} {z fr : Nat} {nm : Nat → Int32} {nt D D' j : Nat} {ex : List (Option si_AV)} {o nd : Nat} {p : PF} (h : rrS sc f z fr nm nt D j ex o nd p) (hd : D ≤ D') : rrS sc f z fr nm nt D' j ex o nd p := fun d μ Q k hdd => h d μ Q k (by omega)
section RC
variable {sc : si_Sc} {d : Nat} {μ μ' : si_Mm} {Q : si_Po} {f : Nat → Int32} {z fr k o nt : Nat} {nm : Nat → Int32}
theorem nm_p (h : ∀ i, i < 6 → μ.1 7 0 (15 + i) = nm i) (hf : fx Jp A0 μ μ') : ∀ i, i < 6 → μ'.1 7 0 (15 + i) = nm i := fun i hi => by rw [hf 7 0 _ (fun q => by have := Jp_i.mp q.2.2; omega) rfl]; exact h i hi
theorem TT_w {w : Nat} (hw : w < 12) (h : TT f z k = cw w) : TT f z k ≠ 0 ∧ TT f z k ≠ 1 := by
  have := cw_r w hw
  rw [h]
  refine ⟨fun e => ?_, fun e => ?_⟩
  · rw [e, i_0] at this; omega
  · rw [e, i_1] at this; omega
theorem TT_g {s : Int32} (hs : isG s) (h : TT f z k = s) : TT f z k ≠ 0 ∧ TT f z k ≠ 1 := by
  have := isG_c hs
  rw [h]
  refine ⟨fun e => ?_, fun e => ?_⟩
  · rw [e, i_0] at this; omega
  · rw [e, i_1] at this; omega
theorem TT_lt (h0 : ∀ k, nt ≤ k → TT f z k = 0) (h : TT f z k ≠ 0) : k < nt := Nat.lt_of_not_le fun q => h (h0 k q)
/-- the token is taken -/
theorem r_nx (h0 : ∀ k, nt ≤ k → TT f z k = 0) (h : IN f z fr nm o nt k μ) (ht : TT f z k ≠ 0 ∧ TT f z k ≠ 1) (hq : ∀ μ', fx Jp A0 μ μ' → IN f z fr nm o nt (k + 1) μ' → Q none μ') : si_W sc (d + 1) 136 0 [some (.inr (.inr (7, 0))), none, none] [] μ Q := by
  refine r_nextT h.1 h.2.1 ht.1 ht.2 fun μ' f' a' o' => hq μ' f' ⟨h.1.p f', a', o'.trans h.2.2.1, nm_p h.2.2.2.1 f', ?_⟩
  have := TT_lt h0 ht.1
  omega
theorem r_opens (h0 : ∀ k, nt ≤ k → TT f z k = 0) (ho : o ≤ 5) (h : IN f z fr nm o nt k μ) (ht : TT f z k ≠ 0 ∧ TT f z k ≠ 1) (h5 : o = 5 → ∀ μ', fx Jp A0 μ μ' → BD f z k μ' → Q (some (.inl 0)) μ') (hq : o < 5 → ∀ μ', fx Jp A0 μ μ' → IN f z fr nm (o + 1) nt (k + 1) μ' → Q (some (.inl 1)) μ') : si_W sc (d + 2) 140 0 [some (.inr (.inr (7, 0)))] [] μ Q := by
  have e5 : (5 : Int32) = nI 5 := rfl
  refine k_X7_opens_0 ⟨fun c => ?_, fun c => ?_⟩
  · rw [h.2.2.1, e5, nI_eq (by omega) (by omega)] at c
    rw [h.2.2.1, nI_1]
    have f1 : fx Jp A0 μ (si_ms μ 7 0 27 (nI (o + 1))) := fx.p1 (by omega)
    have a1 : AT f z k (si_ms μ 7 0 27 (nI (o + 1))) := by
      obtain ⟨g1, g2, g3⟩ := h.2.1
      refine ⟨by rw [ms_eq, if_neg (by omega)]; exact g1, by rw [ms_eq, if_neg (by omega)]; exact g2, ?_⟩
      unfold tkR at g3 ⊢
      rw [ms_eq, if_neg (by omega), ms_eq, if_neg (by omega), ms_2]
      exact g3
    refine r_nextT (h.1.p f1) a1 ht.1 ht.2 fun μ' f' a' o' => k_X7_opens_28 ⟨b1, hq (by omega) μ' (f1.tr f') ⟨h.1.p (f1.tr f'), a', ?_, nm_p h.2.2.2.1 (f1.tr f'), ?_⟩⟩
    · rw [o', ms_eq, if_pos ⟨rfl, rfl, rfl⟩]
    · have := TT_lt h0 ht.1; omega
  · rw [h.2.2.1, e5, nI_eq (by omega) (by omega)] at c
    exact r_fail h.2.1 fun μ' f' b' _ => k_X7_opens_12 ⟨b0, h5 c μ' f' b'⟩
theorem cw_nm0 : ∀ w, w < 12 → 6 ≤ w → (-1 - cw w).toNatClampNeg = w - 6 ∧ ¬ 0 ≤ cw w ∧ ¬ 6 ≤ -1 - cw w ∧ ¬ -1 < cw w := by decide +kernel
theorem cw_nm (w : Nat) (h6 : 6 ≤ w) (h12 : w < 12) : (-1 - cw w).toNatClampNeg = w - 6 ∧ ¬ 0 ≤ cw w ∧ ¬ 6 ≤ -1 - cw w ∧ ¬ -1 < cw w := cw_nm0 w h12 h6
theorem r_name (h : IN f z fr nm o nt k μ) (ok : ∀ w, 6 ≤ w → w < 12 → TT f z k = cw w → Q (some (.inl (nm (w - 6)))) μ) (bad : (∀ w, 6 ≤ w → w < 12 → TT f z k ≠ cw w) → ∀ μ', fx Jp A0 μ μ' → BD f z k μ' → Q (some (.inl 0)) μ') : si_W sc (d + 3) 142 0 [some (.inr (.inr (7, 0)))] [] μ Q := by
  obtain ⟨ht, ha, ho, hn, hk⟩ := h
  have val : ∀ w j, 6 ≤ w → w < 12 → TT f z k = cw w → j = 15 + (w - 6) → Q (some (.inl (μ.1 7 0 j))) μ := fun w j h6 h12 e ej => by
    have := ok w h6 h12 e
    rw [← hn (w - 6) (by omega), ← ej] at this; exact this
  refine k_X7_name_0 (r_isW (w := 6) (by decide) (by decide +kernel) ht ha (k_X7_name_18 ⟨fun c6 => ?_, fun c => val 6 _ (by decide) (by decide) (bi_n c) rfl⟩))
  refine r_isW (w := 7) (by decide) (by decide +kernel) ht ha (k_X7_name_42 ⟨fun c7 => ?_, fun c => val 7 _ (by decide) (by decide) (bi_n c) rfl⟩)
  refine r_isW (w := 8) (by decide) (by decide +kernel) ht ha (k_X7_name_67 ⟨fun c8 => ?_, fun c => val 8 _ (by decide) (by decide) (bi_n c) rfl⟩)
  refine r_isW (w := 9) (by decide) (by decide +kernel) ht ha (k_X7_name_91 ⟨fun c9 => ?_, fun c => val 9 _ (by decide) (by decide) (bi_n c) rfl⟩)
  refine r_isW (w := 10) (by decide) (by decide +kernel) ht ha (k_X7_name_116 ⟨fun c10 => ?_, fun c => val 10 _ (by decide) (by decide) (bi_n c) rfl⟩)
  refine r_isW (w := 11) (by decide) (by decide +kernel) ht ha (k_X7_name_142 ⟨fun c11 => ?_, fun c => val 11 _ (by decide) (by decide) (bi_n c) rfl⟩)
  refine r_fail ha fun μ' f' b' _ => k_X7_name_154 (bad (fun w h6 h12 e => ?_) μ' f' b')
  rcases (show w = 6 ∨ w = 7 ∨ w = 8 ∨ w = 9 ∨ w = 10 ∨ w = 11 by omega) with rfl | rfl | rfl | rfl | rfl | rfl
  · exact bi_0.mp c6 e
  · exact bi_0.mp c7 e
  · exact bi_0.mp c8 e
  · exact bi_0.mp c9 e
  · exact bi_0.mp c10 e
  · exact bi_0.mp c11 e
theorem IN.dd (h : IN f z fr nm o nt k μ) (hf : fx Jp A0 μ μ') (ha : AT f z k μ') (ho : μ'.1 7 0 27 = nI o) : IN f z fr nm o nt k μ' := ⟨h.1.p hf, ha, ho, nm_p h.2.2.2.1 hf, h.2.2.2.2⟩
end RC
