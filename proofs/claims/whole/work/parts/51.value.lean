/-! Book.value: codes worked off on a stack -/
def ev_op (c a b : Int32) : Int32 := if c = -17 then a - b else if c = -16 then a + b else if c = -15 then bi (a = b) else if c = -14 then bi (a < b) else if c = -13 then a * b else if c = -12 then bi (a ≠ 0 ∧ b ≠ 0) else if c = -11 then bi (a ≠ 0 ∨ b ≠ 0) else a * b
def ev_step (nm : Nat → Int32) (c : Int32) (q : Nat × (Nat → Int32)) : Nat × (Nat → Int32) :=
  if 0 ≤ c then (if q.1 < 64 then (q.1 + 1, upd q.2 q.1 c) else q)
  else if 6 ≤ -1 - c then
    (if c = -13 then (if q.1 = 0 then q else (q.1, upd q.2 (q.1 - 1) (bi (q.2 (q.1 - 1) = 0))))
    else if c = -19 then (if q.1 = 0 then q else (q.1, upd q.2 (q.1 - 1) (-(q.2 (q.1 - 1)))))
    else if q.1 ≤ 1 then q else (q.1 - 1, upd q.2 (q.1 - 2) (ev_op c (q.2 (q.1 - 2)) (q.2 (q.1 - 1)))))
  else (if q.1 < 64 then (q.1 + 1, upd q.2 q.1 (nm (-1 - c).toNatClampNeg)) else q)
def ev_run (nm cd : Nat → Int32) : Nat → Nat → Nat × (Nat → Int32) → Nat × (Nat → Int32)
  | 0, _, q => q
  | n + 1, k, q => ev_run nm cd n (k + 1) (ev_step nm (cd k) q)
def ev_fin (q : Nat × (Nat → Int32)) : Int32 := if q.1 = 0 then 0 else q.2 (q.1 - 1)
theorem ev_step_le {nm : Nat → Int32} {c : Int32} {q : Nat × (Nat → Int32)} (h : q.1 ≤ 64) : (ev_step nm c q).1 ≤ 64 := by
  unfold ev_step
  repeat' split
  all_goals first | exact h | (show _ ≤ 64; omega)
/-- all but the stack is as it was -/
def sq1 (μ μ' : si_Mm) : Prop := (∀ a i, a ≠ 12 → μ'.1 a i = μ.1 a i) ∧ μ'.2 = μ.2
theorem sq1.rf {μ : si_Mm} : sq1 μ μ := ⟨fun _ _ _ => rfl, rfl⟩
theorem sq1.tr {μ1 μ2 μ3 : si_Mm} (h : sq1 μ1 μ2) (g : sq1 μ2 μ3) : sq1 μ1 μ3 := ⟨fun a i e => (g.1 a i e).trans (h.1 a i e), g.2.trans h.2⟩
theorem sq1.ms {μ : si_Mm} {k : Nat} {v : Int32} : sq1 μ (si_ms μ 12 0 k v) := ⟨fun a i e => si_ms_ne μ k v (fun q => e (congrArg Prod.fst q)), rfl⟩
section PV
variable {sc : si_Sc} {d g : Nat} {μ : si_Mm} {Q : si_Po} {x y z : Int32}
theorem p_combined (hq : Q (some (.inl (ev_op x y z))) μ) : si_W sc d 10 0 [some (.inl x), some (.inl y), some (.inl z)] [] μ Q := by
  unfold ev_op at hq
  refine k_X1_combined_0 ⟨fun h => ?_, fun h => ⟨fun h1 => ?_, fun h1 => ⟨fun h2 => ?_, fun h2 => ⟨fun h3 => ?_, fun h3 => ⟨fun h4 => ?_, fun h4 => ⟨fun h5 => ?_, fun h5 => ⟨fun h6 => ?_, fun h6 => ?_⟩⟩⟩⟩⟩⟩⟩
  · rw [if_pos h] at hq; exact hq
  · rw [if_neg h, if_pos h1] at hq; exact hq
  · rw [if_neg h, if_neg h1, if_pos h2] at hq
    exact ⟨fun e => by rw [bi_f e] at hq; exact hq, fun e => by rw [bi_t e] at hq; exact hq⟩
  · rw [if_neg h, if_neg h1, if_neg h2, if_pos h3] at hq
    exact ⟨fun e => by rw [bi_f (i_nlt.mpr e)] at hq; exact hq, fun e => by rw [bi_t (i_nle.mp e)] at hq; exact hq⟩
  · rw [if_neg h, if_neg h1, if_neg h2, if_neg h3, if_pos h4] at hq; exact hq
  · rw [if_neg h, if_neg h1, if_neg h2, if_neg h3, if_neg h4, if_pos h5] at hq
    exact ⟨fun e => by rw [bi_f (fun q => q.1 e)] at hq; exact hq, fun e => ⟨fun e2 => by rw [bi_f (fun q => q.2 e2)] at hq; exact hq, fun e2 => by rw [bi_t ⟨e, e2⟩] at hq; exact hq⟩⟩
  · rw [if_neg h, if_neg h1, if_neg h2, if_neg h3, if_neg h4, if_neg h5, if_pos h6] at hq
    exact ⟨fun e => by rw [bi_t (Or.inl e)] at hq; exact hq, fun e => ⟨fun e2 => by rw [bi_f (fun q => q.elim (fun a => a e) (fun a => a e2))] at hq; exact hq, fun e2 => by rw [bi_t (Or.inr e2)] at hq; exact hq⟩⟩
  · rw [if_neg h, if_neg h1, if_neg h2, if_neg h3, if_neg h4, if_neg h5, if_neg h6] at hq; exact hq
theorem nI_sub1 {n : Nat} (h : 0 < n) (hn : n ≤ 1000) : nI n - 1 = nI (n - 1) := by
  have e : (1 : Int32) = nI 1 := rfl
  rw [e, pk_sub (by omega)]
theorem nI_m1 {n : Nat} (h : 0 < n) : nI n + (-1) = nI (n - 1) := sb_m1 h
theorem nI_pos0 {n : Nat} (h : ¬ nI n ≤ 0) : 0 < n := by
  rcases Nat.eq_zero_or_pos n with e | e
  · rw [e] at h; exact absurd (by decide) h
  · exact e
theorem nI_z {n : Nat} (h : nI n ≤ 0) (hn : n ≤ 1000) : n = 0 := by
  rcases Nat.eq_zero_or_pos n with e | e
  · exact e
  · exact absurd h (nI_nle e (by omega))
theorem fb_rng0 (x : Int32) : -2147483648 ≤ x.toInt ∧ x.toInt < 2147483648 := by
  have h1 := Int32.le_toInt x
  have h2 := Int32.toInt_lt x
  omega
theorem name_in {c : Int32} (h1 : ¬ 0 ≤ c) (h2 : ¬ 6 ≤ -1 - c) : vp_in (-1 - c) 6 := by
  rw [vp_in_iff]
  rw [Int32.le_iff_toInt_le] at h1 h2
  have h0 := fb_rng0 c
  have e0 : (0 : Int32).toInt = 0 := by decide
  have e : (-1 - c).toInt = -1 - c.toInt := by
    rw [Int32.toInt_sub]
    have e1 : (-1 : Int32).toInt = -1 := by decide
    rw [e1, Int.bmod_eq_of_le (by omega) (by omega)]
  rw [e] at h2 ⊢
  have e6 : (6 : Int32).toInt = 6 := by decide
  omega
set_option maxHeartbeats 2000000 in
theorem p_value_lp {tx pt : Int32} {sl E : Nat} (hsl : sl < 18) (hE : E ≤ 960) : ∀ (n k : Nat) (q : Nat × (Nat → Int32)) (μ : si_Mm) (u7 u8 : Option si_AV), k + n = E → μ.1 11 0 (sl + 1) = nI E → q.1 ≤ 64 → μ.1 12 0 = q.2 → (∀ μ', sq1 μ μ' → Q (some (.inl (ev_fin (ev_run (μ.1 13 g) (μ.1 10 0) n k q)))) μ') → si_W sc (d + 1) 11 38 [some (.inr (.inr (1, 0))), some (.inl tx), some (.inl pt), some (.inr (.inr (13, g))), some (.inl (nI sl)), some (.inl (nI q.1)), some (.inl (nI k)), u7, u8] [] μ Q := by
  intro n
  induction n with
  | zero =>
    intro k q μ u7 u8 hk hends hq64 hst hq
    have hc1 : (nI sl + 1).toNatClampNeg = sl + 1 := by rw [nI_1, nI_c (by omega)]
    refine k_X1_value_38 ⟨by rw [nI_1]; exact vp_in_nI (by omega) (by omega), fun _ => ?_, fun h => absurd ?_ h⟩
    · have hq0 := hq μ sq1.rf
      unfold ev_run ev_fin at hq0
      refine k_X1_value_243 ⟨fun h => ?_, fun h => ⟨?_, ?_⟩⟩
      · have h0 : q.1 = 0 := nI_z h (by omega)
        rw [if_pos h0] at hq0; exact hq0
      · have h0 : 0 < q.1 := nI_pos0 h
        rw [nI_sub1 h0 (by omega)]; exact vp_in_nI (by omega) (by omega)
      · have h0 : 0 < q.1 := nI_pos0 h
        rw [nI_sub1 h0 (by omega), nI_c (by omega), hst]
        rw [if_neg (by omega)] at hq0; exact hq0
    · rw [hc1, hends, nI_le8 (by omega) (by omega)]; omega
  | succ n ih =>
    intro k q μ u7 u8 hk hends hq64 hst hq
    have hc1 : (nI sl + 1).toNatClampNeg = sl + 1 := by rw [nI_1, nI_c (by omega)]
    have hck : (nI k).toNatClampNeg = k := nI_c (by omega)
    have hcq : (nI q.1).toNatClampNeg = q.1 := nI_c (by omega)
    have step : ∀ (q' : Nat × (Nat → Int32)) (μ' : si_Mm) (v7 v8 : Int32), ev_step (μ.1 13 g) (μ.1 10 0 k) q = q' → sq1 μ μ' → μ'.1 12 0 = q'.2 → si_W sc (d + 1) 11 237 [some (.inr (.inr (1, 0))), some (.inl tx), some (.inl pt), some (.inr (.inr (13, g))), some (.inl (nI sl)), some (.inl (nI q'.1)), some (.inl (nI k)), some (.inl v7), some (.inl v8)] [] μ' Q := by
      intro q' μ' v7 v8 hs hsq hst'
      refine k_X1_value_237 ?_
      rw [nI_1]
      refine ih (k + 1) q' μ' _ _ (by omega) (by rw [hsq.1 _ _ (by decide)]; exact hends) (by rw [← hs]; exact ev_step_le hq64) hst' ?_
      intro μ2 h2
      rw [hsq.1 13 g (by decide), hsq.1 10 0 (by decide)]
      have := hq μ2 (hsq.tr h2)
      rw [ev_run, hs] at this
      exact this
    refine k_X1_value_38 ⟨by rw [nI_1]; exact vp_in_nI (by omega) (by omega), fun h => ?_, fun _ => ⟨fun h => ?_, fun _ => ⟨vp_in_nI (by omega) (by omega), fun h0 => ?_, fun h0 => ⟨fun h6 => ?_, fun h6 => ⟨fun h => absurd h h6, fun _ => ?_⟩⟩⟩⟩⟩
    · rw [hc1, hends, nI_le8 (by omega) (by omega)] at h; omega
    · have e9 : Int32.ofNat 960 = nI 960 := rfl
      rw [e9, nI_le8 (by omega) (by omega)] at h; omega
    · rw [hck] at h0 ⊢
      refine k_X1_value_96 ⟨fun h => ?_, fun h => ⟨fun hn => absurd h0 (i_nle.mpr hn), fun _ => ?_⟩⟩
      · refine step q μ _ _ ?_ sq1.rf hst
        have e64 : (64 : Int32) = nI 64 := rfl
        rw [e64, nI_le8 (by omega) (by omega)] at h
        unfold ev_step
        rw [if_pos h0, if_neg (by omega)]
      · have e64 : (64 : Int32) = nI 64 := rfl
        rw [e64, nI_le8 (by omega) (by omega)] at h
        refine k_X1_value_123 ⟨vp_in_nI (by omega) (by omega), ?_⟩
        rw [nI_1, hcq]
        refine step (q.1 + 1, upd q.2 q.1 (μ.1 10 0 k)) _ _ _ ?_ sq1.ms ?_
        · unfold ev_step
          rw [if_pos h0, if_pos (by omega)]
        · rw [si_ms_same, hst]
    · rw [hck] at h0 h6 ⊢
      refine k_X1_value_130 ⟨fun h13 => ?_, fun h13 => ⟨fun h19 => ⟨fun h1 => ?_, fun h1 => ⟨?_, ?_, ?_⟩⟩, fun h19 => ?_⟩⟩
      · refine k_X1_value_144 ⟨fun hz => ?_, fun hz => ⟨fun h19 => ⟨?_, fun hv => ?_, fun hv => ?_⟩, fun h19 => ?_⟩⟩
        · have hz0 : q.1 = 0 := nI_z hz (by omega)
          refine step q μ _ _ ?_ sq1.rf hst
          unfold ev_step
          rw [if_neg h0, if_pos h6, if_pos h13, if_pos hz0]
        all_goals have hp := nI_pos0 hz
        · rw [nI_sub1 hp (by omega)]; exact vp_in_nI (by omega) (by omega)
        · rw [nI_sub1 hp (by omega), nI_c (by omega), hst] at hv
          rw [nI_sub1 hp (by omega)]
          refine k_X1_value_194 ⟨vp_in_nI (by omega) (by omega), ?_⟩
          rw [nI_c (by omega)]
          refine step (q.1, upd q.2 (q.1 - 1) 0) _ _ _ ?_ sq1.ms (by rw [si_ms_same, hst])
          unfold ev_step
          rw [if_neg h0, if_pos h6, if_pos h13, if_neg (by omega), bi_f hv]
        · rw [nI_sub1 hp (by omega), nI_c (by omega), hst] at hv
          rw [nI_sub1 hp (by omega)]
          refine k_X1_value_194 ⟨vp_in_nI (by omega) (by omega), ?_⟩
          rw [nI_c (by omega)]
          refine step (q.1, upd q.2 (q.1 - 1) 1) _ _ _ ?_ sq1.ms (by rw [si_ms_same, hst])
          unfold ev_step
          rw [if_neg h0, if_pos h6, if_pos h13, if_neg (by omega), bi_t hv]
        · rw [h13] at h19; exact absurd h19 (by decide)
      · have hz1 : q.1 ≤ 1 := by
          have e1 : (1 : Int32) = nI 1 := rfl
          rw [e1, nI_le8 (by omega) (by omega)] at h1; exact h1
        refine step q μ _ _ ?_ sq1.rf hst
        unfold ev_step
        rw [if_neg h0, if_pos h6, if_neg h13, if_neg h19, if_pos hz1]
      · have hz1 : 1 < q.1 := by
          have e1 : (1 : Int32) = nI 1 := rfl
          rw [e1, nI_le8 (by omega) (by omega)] at h1; omega
        rw [nI_m1 (by omega), nI_sub1 (by omega) (by omega)]; exact vp_in_nI (by omega) (by omega)
      · have hz1 : 1 < q.1 := by
          have e1 : (1 : Int32) = nI 1 := rfl
          rw [e1, nI_le8 (by omega) (by omega)] at h1; omega
        rw [nI_m1 (by omega)]; exact vp_in_nI (by omega) (by omega)
      · have hz1 : 1 < q.1 := by
          have e1 : (1 : Int32) = nI 1 := rfl
          rw [e1, nI_le8 (by omega) (by omega)] at h1; omega
        have e2 : q.1 - 1 - 1 = q.1 - 2 := by omega
        rw [nI_m1 (by omega), nI_sub1 (by omega) (by omega), nI_c (by omega), nI_c (by omega), hst, e2]
        refine p_combined ?_
        refine k_X1_value_236 ⟨vp_in_nI (by omega) (by omega), ?_⟩
        rw [nI_c (by omega)]
        refine step (q.1 - 1, upd q.2 (q.1 - 2) (ev_op (μ.1 10 0 k) (q.2 (q.1 - 2)) (q.2 (q.1 - 1)))) _ _ _ ?_ sq1.ms (by rw [si_ms_same, hst])
        unfold ev_step
        rw [if_neg h0, if_pos h6, if_neg h13, if_neg h19, if_neg (by omega)]
      · refine k_X1_value_144 ⟨fun hz => ?_, fun hz => ⟨fun hn => absurd h19 hn, fun _ => ⟨?_, ?_⟩⟩⟩
        · have hz0 : q.1 = 0 := nI_z hz (by omega)
          refine step q μ _ _ ?_ sq1.rf hst
          unfold ev_step
          rw [if_neg h0, if_pos h6, if_neg h13, if_pos h19, if_pos hz0]
        all_goals have hp := nI_pos0 hz
        · rw [nI_sub1 hp (by omega)]; exact vp_in_nI (by omega) (by omega)
        · rw [nI_sub1 hp (by omega), nI_c (by omega), hst]
          refine k_X1_value_194 ⟨vp_in_nI (by omega) (by omega), ?_⟩
          rw [nI_c (by omega)]
          refine step (q.1, upd q.2 (q.1 - 1) (-(q.2 (q.1 - 1)))) _ _ _ ?_ sq1.ms (by rw [si_ms_same, hst])
          unfold ev_step
          rw [if_neg h0, if_pos h6, if_neg h13, if_pos h19, if_neg (by omega)]
    · rw [hck] at h0 h6 ⊢
      refine k_X1_value_96 ⟨fun h => ?_, fun h => ⟨fun hn => ⟨name_in h0 h6, ?_⟩, fun hn => absurd (i_nlt.mp hn) h0⟩⟩
      · refine step q μ _ _ ?_ sq1.rf hst
        have e64 : (64 : Int32) = nI 64 := rfl
        rw [e64, nI_le8 (by omega) (by omega)] at h
        unfold ev_step
        rw [if_neg h0, if_neg h6, if_neg (by omega)]
      · have e64 : (64 : Int32) = nI 64 := rfl
        rw [e64, nI_le8 (by omega) (by omega)] at h
        refine k_X1_value_123 ⟨vp_in_nI (by omega) (by omega), ?_⟩
        rw [nI_1, hcq]
        refine step (q.1 + 1, upd q.2 q.1 (μ.1 13 g (-1 - μ.1 10 0 k).toNatClampNeg)) _ _ _ ?_ sq1.ms ?_
        · unfold ev_step
          rw [if_neg h0, if_neg h6, if_pos (by omega)]
        · rw [si_ms_same, hst]
theorem p_value {tn pn a b : Nat} (ht : tn < 6) (hp : pn < 3) (ha : μ.1 11 0 (3 * tn + pn) = nI a) (hb : μ.1 11 0 (3 * tn + pn + 1) = nI b) (hab : a ≤ b) (hb9 : b ≤ 960) (hq : ∀ μ', sq1 μ μ' → Q (some (.inl (ev_fin (ev_run (μ.1 13 g) (μ.1 10 0) (b - a) a (0, μ.1 12 0))))) μ') : si_W sc (d + 1) 11 0 [some (.inr (.inr (1, 0))), some (.inl (nI tn)), some (.inl (nI pn)), some (.inr (.inr (13, g))), none, none, none, none, none] [] μ Q := by
  have e3 : (3 : Int32) = nI 3 := rfl
  have es : nI tn * 3 + nI pn = nI (3 * tn + pn) := by rw [e3, pk_mul, nI_add, Nat.mul_comm]
  have e19 : Int32.ofNat 19 = nI 19 := rfl
  refine k_X1_value_0 ⟨fun h => ?_, fun _ => ⟨fun _ => ⟨?_, ?_⟩, fun h => absurd ?_ h⟩⟩
  · rw [es] at h; exact absurd h (nI_pos (by omega))
  · rw [es]; exact vp_in_nI (by omega) (by omega)
  · rw [es, nI_c (by omega), ha]
    exact p_value_lp (sl := 3 * tn + pn) (E := b) (by omega) hb9 (b - a) a (0, μ.1 12 0) μ _ _ (by omega) hb (by show 0 ≤ 64; omega) rfl hq
  · rw [es, e19, nI_1, nI_lt8 (by omega) (by omega)]; omega
end PV
