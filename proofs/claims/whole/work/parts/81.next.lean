/-! the reference's tokens -/
def Jp (j : Nat) : Bool := Nat.ble 23 j && Nat.ble j 29
theorem Jp_i {j : Nat} : Jp j = true ↔ 23 ≤ j ∧ j ≤ 29 := by unfold Jp; rw [Bool.and_eq_true, Nat.ble_eq, Nat.ble_eq]
theorem fx.ps {μ1 μ2 : si_Mm} (h : fx Jp A0 μ1 μ2) : fx Js A0 μ1 μ2 := h.mo (fun j q => Js_i.mpr (by have := Jp_i.mp q; omega)) (fun a q => q)
theorem fx.p1 {μ : si_Mm} {j : Nat} {v : Int32} (hj : 23 ≤ j ∧ j ≤ 29) : fx Jp A0 μ (si_ms μ 7 0 j v) := fun a i j' e1 _ => by rw [ms_eq, if_neg (fun q => e1 ⟨q.1, q.2.1, Jp_i.mpr (by omega)⟩)]
theorem fx.p2 {J A : Nat → Bool} {μ μ' : si_Mm} {y : Int64} (h : fx J A μ μ') : fx J A μ (μ'.1, y) := h
def Jn (j : Nat) : Bool := Nat.ble 23 j && Nat.ble j 25
theorem Jn_i {j : Nat} : Jn j = true ↔ 23 ≤ j ∧ j ≤ 25 := by unfold Jn; rw [Bool.and_eq_true, Nat.ble_eq, Nat.ble_eq]
theorem fx.np {μ1 μ2 : si_Mm} (h : fx Jn A0 μ1 μ2) : fx Jp A0 μ1 μ2 := h.mo (fun j q => Jp_i.mpr (by have := Jn_i.mp q; omega)) (fun a q => q)
theorem fx.n1 {μ : si_Mm} {j : Nat} {v : Int32} (hj : 23 ≤ j ∧ j ≤ 25) : fx Jn A0 μ (si_ms μ 7 0 j v) := fun a i j' e1 _ => by rw [ms_eq, if_neg (fun q => e1 ⟨q.1, q.2.1, Jn_i.mpr (by omega)⟩)]
def TS (μ : si_Mm) (f : Nat → Int32) (z fr : Nat) : Prop := μ.1 7 0 21 = nI fr ∧ μ.1 7 0 22 = nI z ∧ z ≤ 160 ∧ fr + 160 ≤ 960 ∧ ∀ i, i < z → μ.1 29 0 (fr + i) = f i ∧ 0 ≤ (f i).toInt
theorem TS.p {μ μ' : si_Mm} {f : Nat → Int32} {z fr : Nat} (h : TS μ f z fr) (hf : fx Jp A0 μ μ') : TS μ' f z fr := by
  obtain ⟨a1, a2, a3, a4, a5⟩ := h
  refine ⟨(hf 7 0 21 (fun q => by have := Jp_i.mp q.2.2; omega) rfl).trans a1, (hf 7 0 22 (fun q => by have := Jp_i.mp q.2.2; omega) rfl).trans a2, a3, a4, fun i hi => ?_⟩
  rw [hf 29 0 _ (by omega) rfl]; exact a5 i hi
noncomputable def tkR (f : Nat → Int32) (z k : Nat) (μ : si_Mm) : Prop := ic (z ≤ lb f z (en f z k)) (μ.1 7 0 24 = 0) (ic (isL (f (lb f z (en f z k)))) (μ.1 7 0 24 = 1 ∧ μ.1 7 0 23 = nI (wE f z (lb f z (en f z k)))) (ic (isD (f (lb f z (en f z k)))) (ic (nE f z (lb f z (en f z k)) - lb f z (en f z k) ≤ 4) (μ.1 7 0 24 = 2 ∧ μ.1 7 0 23 = nI (nE f z (lb f z (en f z k))) ∧ μ.2 = (WW f z k).toInt64) (μ.1 7 0 24 = 4)) (ic (isG (f (lb f z (en f z k)))) (μ.1 7 0 24 = 3 ∧ μ.1 7 0 23 = nI (lb f z (en f z k) + 1) ∧ μ.2 = (f (lb f z (en f z k))).toInt64) (μ.1 7 0 24 = 4))))
/-- the reference stands at token k -/
def AT (f : Nat → Int32) (z k : Nat) (μ : si_Mm) : Prop := μ.1 7 0 28 = 0 ∧ μ.1 7 0 25 = nI (BB f z k) ∧ tkR f z k μ
def nvN (f : Nat → Int32) (b : Nat) : Nat → Nat
  | 0 => 0
  | c + 1 => nvN f b c * 10 + ((f (b + c)).toNatClampNeg - 48)
theorem nval_s {f : Nat → Int32} : ∀ (m p : Nat) (a : Int32), nval f (m + 1) p a = nval f m p a * 10 + f (p + m) - 48
  | 0, _, _ => rfl
  | m + 1, p, a => by
    show nval f (m + 1) (p + 1) (a * 10 + f p - 48) = _
    rw [nval_s m (p + 1)]
    show _ = nval f m (p + 1) (a * 10 + f p - 48) * 10 + f (p + (m + 1)) - 48
    rw [show p + 1 + m = p + (m + 1) by omega]
theorem dg_n {x : Int32} (h : isD x) : ∃ c, 48 ≤ c ∧ c ≤ 57 ∧ x = nI c := by
  have h1 := rg_n (A := 57) (lo := 48) (hi := 57) (by decide) (by decide) h
  refine ⟨x.toNatClampNeg, ?_, h1.1, h1.2.1⟩
  have := h1.2.2
  have e : (48 : Int32).toInt = 48 := by decide
  rw [e] at this; omega
theorem nval_N {f : Nat → Int32} {b : Nat} : ∀ c, (∀ i, i < c → isD (f (b + i))) → nval f c b 0 = nI (nvN f b c)
  | 0, _ => rfl
  | c + 1, h => by
    obtain ⟨q, h1, h2, e⟩ := dg_n (h c (by omega))
    rw [nval_s, nval_N c (fun i hi => h i (by omega)), nvN, e, nI_c (by omega)]
    have e10 : (10 : Int32) = nI 10 := rfl
    have e48 : (48 : Int32) = nI 48 := rfl
    rw [e10, pk_mul, nI_add, e48, pk_sub (by omega)]
    congr 1
    omega
theorem nvN_lt {f : Nat → Int32} {b : Nat} : ∀ c, (∀ i, i < c → isD (f (b + i))) → nvN f b c < 10 ^ c
  | 0, _ => Nat.zero_lt_one
  | c + 1, h => by
    obtain ⟨q, h1, h2, e⟩ := dg_n (h c (by omega))
    have := nvN_lt c (fun i hi => h i (by omega))
    rw [nvN, e, nI_c (by omega), Nat.pow_succ]
    omega
section RN
variable {sc : si_Sc} {d : Nat} {μ : si_Mm} {Q : si_Po} {f : Nat → Int32} {z fr : Nat} {x : Int32}
theorem r_byteAt {p : Nat} (h : TS μ f z fr) (hp : p ≤ 1000) (hq : Q (some (.inl (if p < z then f p else -1))) μ) : si_W sc d 135 0 [some (.inr (.inr (7, 0))), some (.inl (nI p))] [] μ Q := by
  obtain ⟨a1, a2, a3, a4, a5⟩ := h
  refine k_X7_byteAt_0 ⟨fun c => ?_, fun c => ?_⟩
  · rw [a2, nI_le8 (by omega) (by omega)] at c
    rw [if_neg (by omega)] at hq; exact hq
  · rw [a2, nI_le8 (by omega) (by omega)] at c
    rw [if_pos (by omega)] at hq
    rw [a1, nI_add, nI_c (by omega), (a5 p (by omega)).1]
    exact ⟨vp_in_nI (by omega) (by omega), hq⟩
theorem c97 : si_c64 2 = (97 : Int32).toInt64 := by decide +kernel
theorem c122 : si_c64 3 = (122 : Int32).toInt64 := by decide +kernel
theorem c48 : si_c64 4 = (48 : Int32).toInt64 := by decide +kernel
theorem c57 : si_c64 5 = (57 : Int32).toInt64 := by decide +kernel
theorem m1L : ¬ ((97 : Int32) ≤ -1 ∧ (-1 : Int32) ≤ 122) := by decide
theorem m1D : ¬ ((48 : Int32) ≤ -1 ∧ (-1 : Int32) ≤ 57) := by decide
set_option maxHeartbeats 2000000 in
theorem r_next {k : Nat} (h : TS μ f z fr) (hb : μ.1 7 0 28 = 0) (ha : μ.1 7 0 23 = nI (en f z k)) (hq : ∀ μ', fx Jn A0 μ μ' → AT f z k μ' → Q none μ') : si_W sc (d + 1) 136 0 [some (.inr (.inr (7, 0))), none, none] [] μ Q := by
  have hz := h.2.2.1
  have hen := en_le (f := f) (z := z) k
  have hble := (lb_le (f := f) hen).2
  have bad' : ∀ μ', fx Jn A0 μ μ' → (∀ v, μ'.1 7 0 28 = v → True) := fun _ _ _ _ => trivial
  -- what is kept on the way: all but 23, 24, 25 and the long
  let G : si_Mm → Prop := fun μ' => fx Jn A0 μ μ' ∧ μ'.1 7 0 28 = 0
  have Gms : ∀ μ' j v, G μ' → j = 23 ∨ j = 24 ∨ j = 25 → G (si_ms μ' 7 0 j v) := fun μ' j v g hj => ⟨g.1.tr (fx.n1 (by omega)), by rw [ms_eq, if_neg (by omega)]; exact g.2⟩
  have done : ∀ μ', G μ' → μ'.1 7 0 25 = nI (BB f z k) → tkR f z k μ' → Q none μ' := fun μ' g h25 ht => hq μ' g.1 ⟨g.2, h25, ht⟩
  have e25 : ¬ z ≤ lb f z (en f z k) → BB f z k = lb f z (en f z k) := fun c => by unfold BB lB; exact ic_f c
  have e25z : z ≤ lb f z (en f z k) → BB f z k = z := fun c => by unfold BB lB; exact ic_t c
  have eW : WW f z k = nval f (nE f z (lb f z (en f z k)) - lb f z (en f z k)) (lb f z (en f z k)) 0 := rfl
  unfold tkR at done
  -- at the first that is no blank
  have at55 : ∀ μ', G μ' → μ'.1 7 0 23 = nI (lb f z (en f z k)) → μ'.1 7 0 25 = nI (lb f z (en f z k)) → si_W sc (d + 1) 136 55 [some (.inr (.inr (7, 0))), none, none] [.inl (if lb f z (en f z k) < z then f (lb f z (en f z k)) else -1)] μ' Q := by
    generalize hbe : lb f z (en f z k) = b at *
    intro μ1 g1 a1 t1
    by_cases cz : z ≤ b
    · rw [if_neg (by omega)]
      have e : b = z := by omega
      refine k_X7_next_55 ⟨fun c => absurd c (by decide), fun _ => done _ (Gms _ 25 _ (Gms _ 24 _ (Gms _ 24 _ g1 (by omega)) (by omega)) (by omega)) ?_ ?_⟩
      · rw [ms_eq, if_pos ⟨rfl, rfl, rfl⟩, ms_eq, if_neg (by omega), ms_eq, if_neg (by omega), e25z cz]; exact (h.p g1.1.np).2.1
      · rw [ic_t cz, ms_eq, if_neg (by omega), ms_eq, if_pos ⟨rfl, rfl, rfl⟩]
    · have hbz : b < z := by omega
      rw [if_pos hbz]
      rw [e25 cz] at done
      have h0 := (h.2.2.2.2 b hbz).2
      have g2 := Gms _ 24 4 g1 (by omega)
      have a2 : (si_ms μ1 7 0 24 4).1 7 0 23 = nI b := by rw [ms_eq, if_neg (by omega)]; exact a1
      have t2 : (si_ms μ1 7 0 24 4).1 7 0 25 = nI b := by rw [ms_eq, if_neg (by omega)]; exact t1
      have k2 : (si_ms μ1 7 0 24 4).1 7 0 24 = 4 := by rw [ms_eq, if_pos ⟨rfl, rfl, rfl⟩]
      refine k_X7_next_55 ⟨fun _ => ?_, fun c => absurd (by rw [i_le, i_0]; exact h0) c⟩
      generalize si_ms μ1 7 0 24 4 = μ2 at g2 a2 t2 k2
      refine r_in c97 c122 (k_X7_next_92 ⟨fun cl => ?_, fun cl => ?_⟩)
      · have hL : ¬ isL (f b) := bc_0 cl
        refine r_in c48 c57 (k_X7_next_145 ⟨fun cd => ?_, fun cd => ?_⟩)
        · have hD : ¬ isD (f b) := bc_0 cd
          have sg : isG (f b) → si_W sc (d + 1) 136 300 [some (.inr (.inr (7, 0))), some (.inl (f b)), none] [] μ2 Q := by
            intro hG
            refine k_X7_next_300 (done _ (Gms _ 23 _ ⟨(Gms _ 24 3 g2 (by omega)).1, (Gms _ 24 3 g2 (by omega)).2⟩ (by omega)) ?_ ?_)
            · rw [ms_eq, if_neg (by omega)]
              show (si_ms μ2 7 0 24 3).1 7 0 25 = _
              rw [ms_eq, if_neg (by omega)]; exact t2
            · rw [ic_f cz, ic_f hL, ic_f hD, ic_t hG]
              refine ⟨?_, ?_, rfl⟩
              · rw [ms_eq, if_neg (by omega)]
                show (si_ms μ2 7 0 24 3).1 7 0 24 = _
                rw [ms_eq, if_pos ⟨rfl, rfl, rfl⟩]
              · rw [ms_eq, if_pos ⟨rfl, rfl, rfl⟩]
                show (si_ms μ2 7 0 24 3).1 7 0 23 + 1 = _
                rw [ms_eq, if_neg (by omega), a2, nI_1]
          refine ⟨fun q1 => sg (Or.inl q1), fun q1 => ⟨fun q2 => sg (Or.inr (Or.inl q2)), fun q2 => ⟨fun q3 => sg (Or.inr (Or.inr (Or.inl q3))), fun q3 => ⟨fun q4 => sg (Or.inr (Or.inr (Or.inr (Or.inl q4)))), fun q4 => ⟨fun q5 => sg (Or.inr (Or.inr (Or.inr (Or.inr (Or.inl q5))))), fun q5 => ⟨fun q6 => sg (Or.inr (Or.inr (Or.inr (Or.inr (Or.inr (Or.inl q6)))))), fun q6 => ⟨fun q7 => sg (Or.inr (Or.inr (Or.inr (Or.inr (Or.inr (Or.inr (Or.inl q7))))))), fun q7 => ⟨fun q8 => done μ2 g2 t2 ?_, fun q8 => sg (Or.inr (Or.inr (Or.inr (Or.inr (Or.inr (Or.inr (Or.inr q8)))))))⟩⟩⟩⟩⟩⟩⟩⟩
          have hG : ¬ isG (f b) := by
            intro a
            unfold isG at a
            rcases a with a | a | a | a | a | a | a | a
            · exact q1 a
            · exact q2 a
            · exact q3 a
            · exact q4 a
            · exact q5 a
            · exact q6 a
            · exact q7 a
            · exact q8 a
          rw [ic_f cz, ic_f hL, ic_f hD, ic_f hG]; exact k2
        · have hD : isD (f b) := bc_n cd
          have done : ∀ μ', G μ' → μ'.1 7 0 25 = nI b → ic (nE f z b - b ≤ 4) (μ'.1 7 0 24 = 2 ∧ μ'.1 7 0 23 = nI (nE f z b) ∧ μ'.2 = (WW f z k).toInt64) (μ'.1 7 0 24 = 4) → Q none μ' := fun μ' g t hh => done μ' g t (by rw [ic_f cz, ic_f hL, ic_t hD]; exact hh)
          have lp : ∀ (m p : Nat) (μ3 : si_Mm), p + m = z → b ≤ p → G μ3 → μ3.1 7 0 23 = nI p → μ3.1 7 0 25 = nI b → μ3.1 7 0 24 = 2 → skp isD f m p = nE f z b → (p - b ≤ 4 → μ3.2 = lN (nvN f b (p - b))) → (∀ i, i < p - b → isD (f (b + i))) → si_W sc (d + 1) 136 160 [some (.inr (.inr (7, 0))), some (.inl (f b)), some (.inl (nI (p - b)))] [] μ3 Q := by
            have e4 : (4 : Int32) = nI 4 := rfl
            have fin : ∀ (p : Nat) (μ3 : si_Mm), p ≤ z → b ≤ p → G μ3 → μ3.1 7 0 23 = nI p → μ3.1 7 0 25 = nI b → p = nE f z b → (p - b ≤ 4 → μ3.2 = lN (nvN f b (p - b))) → (∀ i, i < p - b → isD (f (b + i))) → ((nI (p - b) ≤ 4 → si_W sc (d + 1) 136 246 [some (.inr (.inr (7, 0))), some (.inl (f b)), some (.inl (nI (p - b)))] [.inl 2, .inr (.inr (7, 0))] μ3 Q) ∧ (¬ nI (p - b) ≤ 4 → si_W sc (d + 1) 136 246 [some (.inr (.inr (7, 0))), some (.inl (f b)), some (.inl (nI (p - b)))] [.inl 4, .inr (.inr (7, 0))] μ3 Q)) := by
              intro p μ3 hpz hbp g3 a3 t3 he hv hd
              rw [← he] at done eW
              rw [e4, nI_le8 (by omega) (by omega)]
              refine ⟨fun c => k_X7_next_246 (done _ (Gms _ 24 2 g3 (by omega)) (by rw [ms_eq, if_neg (by omega)]; exact t3) ?_), fun c => k_X7_next_246 (done _ (Gms _ 24 _ g3 (by omega)) (by rw [ms_eq, if_neg (by omega)]; exact t3) ?_)⟩
              · rw [ic_t c]
                refine ⟨by rw [ms_eq, if_pos ⟨rfl, rfl, rfl⟩], by rw [ms_eq, if_neg (by omega)]; exact a3, ?_⟩
                rw [eW, nval_N _ hd]
                have hlt := nvN_lt _ hd
                have : 10 ^ (p - b) ≤ 10 ^ 4 := Nat.pow_le_pow_right (by decide) c
                rw [nI_l (by omega)]
                exact hv c
              · rw [ic_f c, ms_eq, if_pos ⟨rfl, rfl, rfl⟩]; rfl
            intro m
            induction m with
            | zero =>
              intro p μ3 hp hbp g3 a3 t3 k3 he hv hd
              have he' : p = nE f z b := he
              refine k_X7_next_160 ?_
              rw [a3]
              refine r_byteAt (h.p g3.1.np) (by omega) ?_
              rw [if_neg (by omega)]
              refine k_X7_next_168 (r_in c48 c57 ?_)
              rw [bc_f m1D]
              exact k_X7_next_178 ⟨fun _ => fin p μ3 (by omega) hbp g3 a3 t3 he' hv hd, fun c => absurd rfl c⟩
            | succ m ih =>
              intro p μ3 hp hbp g3 a3 t3 k3 he hv hd
              unfold skp at he
              refine k_X7_next_160 ?_
              rw [a3]
              refine r_byteAt (h.p g3.1.np) (by omega) ?_
              rw [if_pos (by omega)]
              refine k_X7_next_168 (r_in c48 c57 (k_X7_next_178 ⟨fun c => ?_, fun c => ?_⟩))
              · have c' : ¬ isD (f p) := bc_0 c
                rw [ic_f c'] at he
                exact fin p μ3 (by omega) hbp g3 a3 t3 he hv hd
              · have c' : isD (f p) := bc_n c
                rw [ic_t c'] at he
                have hd' : ∀ i, i < p + 1 - b → isD (f (b + i)) := fun i hi => by
                  by_cases e : i < p - b
                  · exact hd i e
                  · rw [show b + i = p by omega]; exact c'
                have ep : p + 1 - b = (p - b) + 1 := by omega
                rw [e4, nI_le8 (by omega) (by omega)]
                refine ⟨fun c4 => k_X7_next_216 ?_, fun c4 => ?_⟩
                · rw [nI_1, ← ep]
                  refine ih (p + 1) _ (by omega) (by omega) (Gms _ 23 _ ⟨g3.1, g3.2⟩ (by omega)) ?_ (by rw [ms_eq, if_neg (by omega)]; exact t3) (by rw [ms_eq, if_neg (by omega)]; exact k3) he (fun q => by omega) hd'
                  rw [ms_eq, if_pos ⟨rfl, rfl, rfl⟩]
                  show μ3.1 7 0 23 + 1 = _
                  rw [a3, nI_1]
                · rw [a3]
                  refine r_byteAt (h.p g3.1.np) (by omega) ?_
                  rw [if_pos (by omega)]
                  refine k_X7_next_203 (k_X7_next_216 ?_)
                  rw [nI_1, ← ep]
                  refine ih (p + 1) _ (by omega) (by omega) (Gms _ 23 _ ⟨g3.1, g3.2⟩ (by omega)) ?_ (by rw [ms_eq, if_neg (by omega)]; exact t3) (by rw [ms_eq, if_neg (by omega)]; exact k3) he (fun q => ?_) hd'
                  · rw [ms_eq, if_pos ⟨rfl, rfl, rfl⟩]
                    show μ3.1 7 0 23 + 1 = _
                    rw [a3, nI_1]
                  · show si_c64 6 * μ3.2 + (f p).toInt64 - si_c64 4 = _
                    obtain ⟨c, q1, q2, e⟩ := dg_n c'
                    have e10 : si_c64 6 = lN 10 := by decide +kernel
                    have e48 : si_c64 4 = lN 48 := by decide +kernel
                    rw [hv (by omega), e, nI_l (by omega), e10, e48, lN_mul, lN_add, lN_sub (by omega), ep, nvN, show b + (p - b) = p by omega, e, nI_c (by omega)]
                    congr 1
                    omega
          have g4 : G ((si_ms μ2 7 0 24 2).1, Int64.ofNat ((0 : Fin 2) : Nat)) := ⟨(Gms _ 24 2 g2 (by omega)).1, (Gms _ 24 2 g2 (by omega)).2⟩
          have l4 := lp (z - b) b _ (by omega) (Nat.le_refl _) g4 (by show (si_ms μ2 7 0 24 2).1 7 0 23 = _; rw [ms_eq, if_neg (by omega)]; exact a2) (by show (si_ms μ2 7 0 24 2).1 7 0 25 = _; rw [ms_eq, if_neg (by omega)]; exact t2) (by show (si_ms μ2 7 0 24 2).1 7 0 24 = _; rw [ms_eq, if_pos ⟨rfl, rfl, rfl⟩]) rfl (fun _ => by rw [Nat.sub_self]; rfl) (fun i hi => by omega)
          rw [Nat.sub_self] at l4
          exact l4
      · have hL : isL (f b) := bc_n cl
        have done : ∀ μ', G μ' → μ'.1 7 0 25 = nI b → (μ'.1 7 0 24 = 1 ∧ μ'.1 7 0 23 = nI (wE f z b)) → Q none μ' := fun μ' g t hh => done μ' g t (by rw [ic_f cz, ic_t hL]; exact hh)
        have lp : ∀ (m p : Nat) (μ3 : si_Mm), p + m = z → b ≤ p → G μ3 → μ3.1 7 0 23 = nI p → μ3.1 7 0 25 = nI b → μ3.1 7 0 24 = 1 → skp isL f m p = wE f z b → si_W sc (d + 1) 136 100 [some (.inr (.inr (7, 0))), some (.inl (f b)), none] [] μ3 Q := by
          intro m
          induction m with
          | zero =>
            intro p μ3 hp hbp g3 a3 t3 k3 he
            have he' : p = wE f z b := he
            refine k_X7_next_100 ?_
            rw [a3]
            refine r_byteAt (h.p g3.1.np) (by omega) ?_
            rw [if_neg (by omega)]
            refine k_X7_next_108 (r_in c97 c122 ?_)
            rw [bc_f m1L]
            exact k_X7_next_118 ⟨fun _ => done μ3 g3 t3 ⟨k3, by rw [← he']; exact a3⟩, fun c => absurd rfl c⟩
          | succ m ih =>
            intro p μ3 hp hbp g3 a3 t3 k3 he
            unfold skp at he
            refine k_X7_next_100 ?_
            rw [a3]
            refine r_byteAt (h.p g3.1.np) (by omega) ?_
            rw [if_pos (by omega)]
            refine k_X7_next_108 (r_in c97 c122 (k_X7_next_118 ⟨fun c => ?_, fun c => ?_⟩))
            · have c' : ¬ isL (f p) := bc_0 c
              rw [ic_f c'] at he
              exact done μ3 g3 t3 ⟨k3, by rw [← he]; exact a3⟩
            · have c' : isL (f p) := bc_n c
              rw [ic_t c'] at he
              rw [a3]
              exact ih (p + 1) _ (by omega) (by omega) (Gms _ 23 _ g3 (by omega)) (by rw [ms_eq, if_pos ⟨rfl, rfl, rfl⟩, nI_1]) (by rw [ms_eq, if_neg (by omega)]; exact t3) (by rw [ms_eq, if_neg (by omega)]; exact k3) he
        exact lp (z - b) b _ (by omega) (Nat.le_refl _) (Gms _ 24 1 g2 (by omega)) (by rw [ms_eq, if_neg (by omega)]; exact a2) (by rw [ms_eq, if_neg (by omega)]; exact t2) (by rw [ms_eq, if_pos ⟨rfl, rfl, rfl⟩]) rfl
  have skl : ∀ (m p : Nat) (μ1 : si_Mm), p + m = z → G μ1 → μ1.1 7 0 23 = nI p → skp isB f m p = lb f z (en f z k) → si_W sc (d + 1) 136 0 [some (.inr (.inr (7, 0))), none, none] [] μ1 Q := by
    have out : ∀ (p : Nat) (μ1 : si_Mm), p ≤ z → G μ1 → μ1.1 7 0 23 = nI p → p = lb f z (en f z k) → si_W sc d 135 0 [some (.inr (.inr (7, 0))), some (.inl ((si_ms μ1 7 0 25 (μ1.1 7 0 23)).1 7 0 23))] [] (si_ms μ1 7 0 25 (μ1.1 7 0 23)) (fun rv μq => si_W sc (d + 1) 136 55 [some (.inr (.inr (7, 0))), none, none] (si_rt rv []) μq Q) := by
      intro p μ1 hp g1 a1 he
      have e1 : (si_ms μ1 7 0 25 (μ1.1 7 0 23)).1 7 0 23 = nI p := by rw [ms_eq, if_neg (by omega)]; exact a1
      rw [e1]
      have g2 := Gms _ 25 (μ1.1 7 0 23) g1 (by omega)
      refine r_byteAt (h.p g2.1.np) (by omega) ?_
      rw [he]
      exact at55 _ g2 (by rw [← he]; exact e1) (by rw [ms_eq, if_pos ⟨rfl, rfl, rfl⟩, a1, he])
    intro m
    induction m with
    | zero =>
      intro p μ1 hp g1 a1 he
      refine k_X7_next_0 ?_
      rw [a1]
      refine r_byteAt (h.p g1.1.np) (by omega) ?_
      rw [if_neg (by omega)]
      refine k_X7_next_8 ⟨fun c => absurd c (by decide), fun _ => ?_⟩
      rw [a1]
      refine r_byteAt (h.p g1.1.np) (by omega) ?_
      rw [if_neg (by omega)]
      exact k_X7_next_21 ⟨fun _ => out p μ1 (by omega) g1 a1 he, fun c => absurd c (by decide)⟩
    | succ m ih =>
      intro p μ1 hp g1 a1 he
      unfold skp at he
      have go : isB (f p) → si_W sc (d + 1) 136 26 [some (.inr (.inr (7, 0))), none, none] [] μ1 Q := by
        intro hB
        rw [ic_t hB] at he
        refine k_X7_next_26 ?_
        rw [a1]
        exact ih (p + 1) _ (by omega) (Gms _ 23 _ g1 (by omega)) (by rw [ms_eq, if_pos ⟨rfl, rfl, rfl⟩, nI_1]) he
      refine k_X7_next_0 ?_
      rw [a1]
      refine r_byteAt (h.p g1.1.np) (by omega) ?_
      rw [if_pos (by omega)]
      refine k_X7_next_8 ⟨fun c => go (Or.inl c), fun c => ?_⟩
      rw [a1]
      refine r_byteAt (h.p g1.1.np) (by omega) ?_
      rw [if_pos (by omega)]
      refine k_X7_next_21 ⟨fun c2 => ?_, fun c2 => go (Or.inr c2)⟩
      have hB : ¬ isB (f p) := fun a => a.elim c c2
      rw [ic_f hB] at he
      exact out p μ1 (by omega) g1 a1 he
  exact skl (z - en f z k) (en f z k) μ (by omega) ⟨fx.rf, hb⟩ ha rfl
end RN
