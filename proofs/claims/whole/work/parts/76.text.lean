/-! the class's text() -/
def evs (nm : Nat → Int32) (cs : List Int32) (q : Nat × (Nat → Int32)) : Nat × (Nat → Int32) := cs.foldl (fun q c => ev_step nm c q) q
/-- what the codes say -/
def evl (nm : Nat → Int32) (cs : List Int32) : Int32 := ev_fin (evs nm cs (0, fun _ => 0))
theorem ev_run_l {nm cd : Nat → Int32} : ∀ (cs : List Int32) (k : Nat) (q : Nat × (Nat → Int32)), (∀ i, i < cs.length → cd (k + i) = cs.getD i 0) → ev_run nm cd cs.length k q = evs nm cs q
  | [], _, _, _ => rfl
  | c :: cs, k, q, h => by
    have h0 := h 0 (by rw [List.length_cons]; omega)
    have e : cd k = c := h0
    show ev_run nm cd cs.length (k + 1) (ev_step nm (cd k) q) = evs nm cs (ev_step nm c q)
    rw [e]
    refine ev_run_l cs (k + 1) _ fun i hi => ?_
    have := h (i + 1) (by rw [List.length_cons]; omega)
    rw [show k + 1 + i = k + (i + 1) by omega, this]
    rfl
theorem ev_run_cd {nm cd cd' : Nat → Int32} : ∀ (m k : Nat) (q : Nat × (Nat → Int32)), (∀ j, k ≤ j → j < k + m → cd' j = cd j) → ev_run nm cd' m k q = ev_run nm cd m k q
  | 0, _, _, _ => rfl
  | m + 1, k, q, h => by
    unfold ev_run
    rw [h k (Nat.le_refl _) (by omega)]
    exact ev_run_cd m (k + 1) _ fun j h1 h2 => h j (by omega) (by omega)
def frT (u q : Nat) (μ μ' : si_Mm) : Prop := (∀ a i j, a ≠ 3 → ¬ (a = 10 ∧ i = 0 ∧ u ≤ j) → ¬ (a = 1 ∧ i = 0 ∧ (j = 3 ∨ j = 4)) → ¬ (a = 11 ∧ i = 0 ∧ q < j) → μ'.1 a i j = μ.1 a i j) ∧ μ'.2 = μ.2
theorem frT.rf {u q : Nat} {μ : si_Mm} : frT u q μ μ := ⟨fun _ _ _ _ _ _ _ => rfl, rfl⟩
theorem frT.tr {u q v w : Nat} {μ1 μ2 μ3 : si_Mm} (huv : u ≤ v) (hqw : q ≤ w) (h : frT u q μ1 μ2) (g : frT v w μ2 μ3) : frT u q μ1 μ3 := ⟨fun a i j e1 e2 e3 e4 => (g.1 a i j e1 (by omega) e3 (by omega)).trans (h.1 a i j e1 e2 e3 e4), g.2.trans h.2⟩
theorem frT.of {u q : Nat} {μ μ' : si_Mm} (h : frR u μ μ') : frT u q μ μ' := ⟨fun a i j e1 e2 e3 _ => h.1 a i j e1 e2 (by omega), h.2⟩
section TX
variable {sc : si_Sc} {T W : Nat → Int32} {B : Nat → Nat} {nt : Nat} {d : Nat} {μ : si_Mm} {Q : si_Po} {k u q : Nat}
theorem p_endPart {v : Int32} (h1 : μ.1 1 0 4 = nI q) (hq18 : q < 18) (h3 : μ.1 1 0 3 = v) (hq : ∀ μ', frT u q μ μ' → μ'.1 3 0 = μ.1 3 0 → μ'.1 10 0 = μ.1 10 0 → μ'.1 1 0 3 = v → μ'.1 1 0 4 = nI (q + 1) → μ'.1 11 0 (q + 1) = v → Q none μ') : si_W sc d 5 0 [some (.inr (.inr (1, 0)))] [] μ Q := by
  have e19 : Int32.ofNat 19 = nI 19 := rfl
  refine k_X1_endPart_0 ⟨fun hn => ?_, fun _ => ?_⟩
  · rw [h1, nI_1, e19, nI_le8 (by omega) (by omega)] at hn; omega
  · rw [h1, nI_1]
    have e1 : (si_ms μ 1 0 4 (nI (q + 1))).1 1 0 4 = nI (q + 1) := by rw [ms_eq, if_pos ⟨rfl, rfl, rfl⟩]
    have e2 : (si_ms μ 1 0 4 (nI (q + 1))).1 1 0 3 = v := by rw [ms_eq, if_neg (by omega)]; exact h3
    rw [e1, e2, nI_c (by omega)]
    refine ⟨vp_in_nI (by omega) (by omega), hq _ ⟨fun a i j n1 n2 n3 n4 => ?_, rfl⟩ ?_ ?_ ?_ ?_ ?_⟩
    · rw [ms_eq, if_neg (by omega), ms_eq, if_neg (by omega)]
    · rw [si_ms_ne _ _ _ (by simp), si_ms_ne _ _ _ (by simp)]
    · rw [si_ms_ne _ _ _ (by simp), si_ms_ne _ _ _ (by simp)]
    · rw [ms_eq, if_neg (by omega)]; exact e2
    · rw [ms_eq, if_neg (by omega)]; exact e1
    · rw [ms_eq, if_pos ⟨rfl, rfl, rfl⟩]
theorem n3 {i : Nat} (hi : i ≤ 3) : (3 : Int32) ≤ nI i ↔ 3 ≤ i := by
  have e : (3 : Int32) = nI 3 := rfl
  rw [e, nI_le8 (by omega) (by omega)]
theorem LDT_T {μ' : si_Mm} (h : frT u q μ μ') (hl : LDT μ T B W nt) : LDT μ' T B W nt := ⟨hl.1, by rw [h.1 5 0 6 (by decide) (by omega) (by omega) (by omega)]; exact hl.2.1, fun j hj => by rw [h.1 26 0 j (by decide) (by omega) (by omega) (by omega), h.1 27 0 j (by decide) (by omega) (by omega) (by omega), h.1 28 0 j (by decide) (by omega) (by omega) (by omega)]; exact hl.2.2 j hj⟩
theorem FS_T {μ' : si_Mm} (h : frT u q μ μ') (h3 : μ'.1 3 0 = μ.1 3 0) (hf : FS T W B nt μ) : FS T W B nt μ' := by
  obtain ⟨h1, h2, h4⟩ := hf
  rw [← h3] at h1 h2
  exact ⟨h1, h2, LDT_T h h4⟩
/-- once there is a fault, the rest of the text changes nothing that matters -/
theorem f_text {F : Int32} : ∀ (m part r : Nat) (μ1 : si_Mm), part + m = 3 → FS T W B nt μ1 → μ1.1 1 0 4 = nI r → r + m ≤ 18 → q ≤ r → frT u q μ μ1 → μ1.1 3 0 3 = F → (∀ μ', frT u q μ μ' → Q (some (.inl F)) μ') → si_W sc (d + 9) 51 12 [some (.inr (.inr (3, 0))), some (.inl (nI part))] [] μ1 Q := by
  intro m
  induction m with
  | zero =>
    intro part r μ1 hm hf h4 hr hqr hT hF hq
    refine k_X3_readText_12 ⟨fun _ => f_isNext hf fun y => k_X3_readText_55 ⟨fun _ => k_X3_readText_62 ?_, fun _ => f_fault hf (k_X3_readText_62 ?_)⟩, fun hn => absurd ((n3 (by omega)).mpr (by omega)) hn⟩
    · rw [hF]; exact hq μ1 hT
    · rw [hF]; exact hq μ1 hT
  | succ m ih =>
    intro part r μ1 hm hf h4 hr hqr hT hF hq
    refine k_X3_readText_12 ⟨fun hn => absurd ((n3 (by omega)).mp hn) (by omega), fun _ => f_expect hf (k_X3_readText_26 (f_either hf (k_X3_readText_31 (f_expect hf (k_X3_readText_37 (p_endPart (u := u) h4 (by omega) rfl fun μ2 t2 g3 g10 g1 g4 g11 => k_X3_readText_44 ?_))))))⟩
    rw [nI_1]
    exact ih (part + 1) (r + 1) μ2 (by omega) (FS_T t2 g3 hf) g4 (by omega) (by omega) (frT.tr (Nat.le_refl _) hqr hT t2) (by rw [g3]; exact hF) hq
theorem pg_part (h0 : ∀ k, nt ≤ k → T k = 0) {key : Int32} (hkey : key ≠ 0) : pg nt (q_part T W key) := by
  intro k hk
  unfold q_part
  by_cases c : T k = key
  · rw [if_pos c]
    have hlt := lt_T h0 (j := k) (by rw [c]; exact hkey)
    have hE := pg_E (T := T) (W := W) h0 (pg_L (W := W) h0 5)
    rcases hr : q_E T W (q_L T W 5) (k + 1) with ⟨k', _ | cs⟩
    · have := pg_n hE (by omega) hr
      show k ≤ k' ∧ k' ≤ nt; omega
    · have := pg_s hE (by omega) hr
      unfold q_b
      dsimp only
      by_cases c3 : T k' = 59
      · rw [if_pos c3]
        have h2 := lt_T h0 (j := k') (by rw [c3]; decide)
        show k < k' + 1 ∧ k' + 1 ≤ nt ∧ cs.length ≤ k' + 1 - k; omega
      · rw [if_neg c3]; show k ≤ k' ∧ k' ≤ nt; omega
  · rw [if_neg c]; exact ⟨Nat.le_refl _, hk⟩
set_option maxHeartbeats 1000000 in
/-- one part of a text -/
theorem c_part {part : Nat} (h0 : ∀ k, nt ≤ k → T k = 0) (hp3 : part < 3) (h : PRE T W B nt μ k u) (h4 : μ.1 1 0 4 = nI q) (hq18 : q < 18)
    (ok : ∀ k' cs μ', q_part T W (nI (201 + part)) k = (k', some cs) → PRE T W B nt μ' k' (u + cs.length) → (∀ i, i < cs.length → μ'.1 10 0 (u + i) = cs.getD i 0) → frT u q μ μ' → μ'.1 1 0 4 = nI (q + 1) → μ'.1 11 0 (q + 1) = nI (u + cs.length) → si_W sc (d + 42) 51 12 [some (.inr (.inr (3, 0))), some (.inl (nI (part + 1)))] [] μ' Q)
    (bad : ∀ k' μ', q_part T W (nI (201 + part)) k = (k', none) → FS T W B nt μ' → μ'.1 3 0 3 = nI (B k') → frT u q μ μ' → μ'.1 1 0 4 = nI (q + 1) → si_W sc (d + 42) 51 12 [some (.inr (.inr (3, 0))), some (.inl (nI (part + 1)))] [] μ' Q) : si_W sc (d + 42) 51 12 [some (.inr (.inr (3, 0))), some (.inl (nI part))] [] μ Q := by
  have ekey : 201 + nI part = nI (201 + part) := by
    have e : (201 : Int32) = nI 201 := rfl
    rw [e, nI_add]
  have hpg := pg_part (T := T) (W := W) h0 (key := nI (201 + part)) (nI_ne0 (by omega) (by omega))
  have hE := (c_lv (sc := sc) (T := T) (W := W) (B := B) h0 5 (by omega)).2.2
  have hEg := pg_E (T := T) (W := W) h0 (pg_L (W := W) h0 5)
  have hkn := h.2.2.2.1
  have h5 := h.2.2.2.2.1
  -- from a fault on to the part's end
  have fin : ∀ k' μ1, q_part T W (nI (201 + part)) k = (k', none) → PO B μ (k', none) u μ1 → k' ≤ nt → si_W sc (d + 42) 51 37 [some (.inr (.inr (3, 0))), some (.inl (nI part))] [] μ1 Q := by
    intro k' μ1 hr p1 hk'
    have f1 := PO.fs h.2.2.2.2.2 hk' p1
    have h41 : μ1.1 1 0 4 = nI q := (p1.2.2.2.1 1 0 4 (by decide) (by omega) (by omega)).trans h4
    refine k_X3_readText_37 (p_endPart (u := u) h41 hq18 rfl fun μ2 t2 g3 g10 g1 g4 g11 => k_X3_readText_44 ?_)
    rw [nI_1]
    exact bad k' μ2 hr (FS_T t2 g3 f1) (by rw [g3]; exact p1.2.1) (frT.tr (Nat.le_refl _) (Nat.le_refl _) (frT.of p1.2.2.2) t2) g4
  refine k_X3_readText_12 ⟨fun hn => absurd ((n3 (by omega)).mp hn) (by omega), fun _ => ?_⟩
  rw [ekey]
  refine c_expect h (fun c μ1 p1 => k_X3_readText_26 ?_) (fun c => k_X3_readText_26 ?_)
  · have f1 := PO.fs h.2.2.2.2.2 hkn p1
    have hr : q_part T W (nI (201 + part)) k = (k, none) := by unfold q_part; rw [if_neg c]
    exact f_either f1 (k_X3_readText_31 (f_expect f1 (fin k μ1 hr p1 hkn)))
  · have hlt := lt_T h0 (j := k) (by rw [c]; exact nI_ne0 (by omega) (by omega))
    refine hE (d + 41) _ _ (k + 1) u (by omega) (took_PRE h hlt) fun μ1 q1 => k_X3_readText_31 ?_
    have P2 : PO B μ (k + 1, some []) u (si_ms μ 3 0 2 (nI (k + 1))) := took_PO (PO.z h)
    rcases hr : q_E T W (q_L T W 5) (k + 1) with ⟨k1, _ | cs⟩
    · rw [hr] at q1
      have hk1 := pg_n hEg (by omega) hr
      have q2 := P2.trn q1
      have hr2 : q_part T W (nI (201 + part)) k = (k1, none) := by unfold q_part; rw [if_pos c, hr]; rfl
      exact f_expect (PO.fs h.2.2.2.2.2 hk1.2 q2) (fin k1 μ1 hr2 q2 hk1.2)
    · rw [hr] at q1
      have hk1 := pg_s hEg (by omega) hr
      have q2 := P2.tr q1
      rw [List.nil_append] at q2
      have E2 := q2.pre h hk1.2.1 (by omega)
      refine c_expect E2 (fun c2 μ3 q3 => ?_) (fun c2 => k_X3_readText_37 ?_)
      · have hr2 : q_part T W (nI (201 + part)) k = (k1, none) := by unfold q_part; rw [if_pos c, hr]; exact if_neg c2
        exact fin k1 μ3 hr2 (q2.trn q3) hk1.2.1
      · have hr2 : q_part T W (nI (201 + part)) k = (k1 + 1, some cs) := by unfold q_part; rw [if_pos c, hr]; exact if_pos c2
        have hlt1 := lt_T h0 (j := k1) (by rw [c2]; decide)
        have q3 := took_PO q2
        have h41 := (q3.2.2.2.2.1 1 0 4 (by decide) (by omega) (by omega)).trans h4
        have E3 := q3.pre h (by omega) (by omega)
        refine p_endPart (u := u) h41 hq18 E3.2.2.1 fun μ4 t4 g3 g10 g1 g4 g11 => k_X3_readText_44 ?_
        rw [nI_1]
        refine ok (k1 + 1) cs μ4 hr2 ⟨by rw [g3]; exact E3.1, by rw [g3]; exact E3.2.1, g1, E3.2.2.2.1, E3.2.2.2.2.1, LDT_T t4 E3.2.2.2.2.2⟩ (fun i hi => by rw [g10]; exact q3.2.2.2.1 i hi) (frT.tr (Nat.le_refl _) (Nat.le_refl _) (frT.of q3.2.2.2.2) t4) g4 g11
set_option maxHeartbeats 1000000 in
theorem c_readText (h0 : ∀ k, nt ≤ k → T k = 0) (hl : LDT μ T B W nt) (hu : μ.1 1 0 3 = nI u) (hu9 : u + nt ≤ 960) (h4 : μ.1 1 0 4 = nI q) (hq18 : q ≤ 15)
    (ok : ∀ k' c0 c1 c2 μ', q_text T W = (k', some (c0, c1, c2)) → frT u q μ μ' → μ'.1 1 0 3 = nI (u + c0.length + c1.length + c2.length) → c0.length + c1.length + c2.length ≤ nt → μ'.1 1 0 4 = nI (q + 3) → μ'.1 11 0 (q + 1) = nI (u + c0.length) → μ'.1 11 0 (q + 2) = nI (u + c0.length + c1.length) → μ'.1 11 0 (q + 3) = nI (u + c0.length + c1.length + c2.length) → (∀ i, i < c0.length → μ'.1 10 0 (u + i) = c0.getD i 0) → (∀ i, i < c1.length → μ'.1 10 0 (u + c0.length + i) = c1.getD i 0) → (∀ i, i < c2.length → μ'.1 10 0 (u + c0.length + c1.length + i) = c2.getD i 0) → Q (some (.inl (-1))) μ')
    (bad : ∀ k' μ', q_text T W = (k', none) → k' ≤ nt → frT u q μ μ' → Q (some (.inl (nI (B k')))) μ') : si_W sc (d + 42) 51 0 [some (.inr (.inr (3, 0))), none] [] μ Q := by
  refine k_X3_readText_0 ?_
  have f0 : frT u q μ (si_ms (si_ms μ 3 0 2 0) 3 0 3 (-1)) := ⟨fun a i j n1 _ _ _ => by rw [ms_eq, if_neg (by omega), ms_eq, if_neg (by omega)], rfl⟩
  have hl0 := LDT_T f0 hl
  have hu0 : (si_ms (si_ms μ 3 0 2 0) 3 0 3 (-1)).1 1 0 3 = nI u := by rw [ms_eq, if_neg (by omega), ms_eq, if_neg (by omega)]; exact hu
  have h40 : (si_ms (si_ms μ 3 0 2 0) 3 0 3 (-1)).1 1 0 4 = nI q := by rw [ms_eq, if_neg (by omega), ms_eq, if_neg (by omega)]; exact h4
  have e2 : (si_ms (si_ms μ 3 0 2 0) 3 0 3 (-1)).1 3 0 2 = nI 0 := by rw [ms_eq, if_neg (by omega), ms_eq, if_pos ⟨rfl, rfl, rfl⟩]; rfl
  have e3 : (si_ms (si_ms μ 3 0 2 0) 3 0 3 (-1)).1 3 0 3 = -1 := by rw [ms_eq, if_pos ⟨rfl, rfl, rfl⟩]
  generalize si_ms (si_ms μ 3 0 2 0) 3 0 3 (-1) = μ0 at f0 hl0 hu0 h40 e2 e3
  have g1 := pg_part (T := T) (W := W) h0 (key := 201) (by decide)
  have g2 := pg_part (T := T) (W := W) h0 (key := 202) (by decide)
  have g3 := pg_part (T := T) (W := W) h0 (key := 203) (by decide)
  refine c_part (part := 0) (k := 0) (u := u) h0 (by omega) ⟨e2, e3, hu0, by omega, by omega, hl0⟩ h40 (by omega) (fun k1 c0 μ1 r1 E1 cd1 t1 p1 en1 => ?_) (fun k1 μ1 r1 F1 b1 t1 p1 => ?_)
  · have r1' : q_part T W 201 0 = (k1, some c0) := r1
    have l1 := pg_s g1 (by omega) r1'
    refine c_part (part := 1) h0 (by omega) E1 p1 (by omega) (fun k2 c1 μ2 r2 E2 cd2 t2 p2 en2 => ?_) (fun k2 μ2 r2 F2 b2 t2 p2 => ?_)
    · have r2' : q_part T W 202 k1 = (k2, some c1) := r2
      have l2 := pg_s g2 (by omega) r2'
      refine c_part (part := 2) h0 (by omega) E2 p2 (by omega) (fun k3 c2 μ3 r3 E3 cd3 t3 p3 en3 => ?_) (fun k3 μ3 r3 F3 b3 t3 p3 => ?_)
      · have r3' : q_part T W 203 k2 = (k3, some c2) := r3
        have l3 := pg_s g3 (by omega) r3'
        have tt := frT.tr (Nat.le_refl _) (Nat.le_refl _) f0 (frT.tr (Nat.le_add_right _ _) (Nat.le_succ _) t1 (frT.tr (Nat.le_add_right _ _) (Nat.le_succ _) t2 t3))
        have ex : q_text T W = if T k3 = 0 then (k3, some (c0, c1, c2)) else (k3, none) := by unfold q_text; rw [r1']; dsimp only; rw [r2']; dsimp only; rw [r3']
        refine k_X3_readText_12 ⟨fun _ => c_isNext E3 (k_X3_readText_55 ⟨fun c => k_X3_readText_62 ?_, fun c => c_fault E3 fun μ4 q4 => k_X3_readText_62 ?_⟩), fun hn => absurd ((n3 (by omega)).mpr (by omega)) hn⟩
        · have c' := bi_n c
          rw [if_pos c'] at ex
          rw [E3.2.1]
          refine ok k3 c0 c1 c2 μ3 ex tt E3.2.2.1 (by omega) p3 ?_ ?_ en3 (fun i hi => ?_) (fun i hi => ?_) cd3
          · rw [t3.1 11 0 (q + 1) (by decide) (by omega) (by omega) (by omega), t2.1 11 0 (q + 1) (by decide) (by omega) (by omega) (by omega)]; exact en1
          · rw [t3.1 11 0 (q + 2) (by decide) (by omega) (by omega) (by omega)]; exact en2
          · rw [t3.1 10 0 (u + i) (by decide) (by omega) (by omega) (by omega), t2.1 10 0 (u + i) (by decide) (by omega) (by omega) (by omega)]; exact cd1 i hi
          · rw [t3.1 10 0 _ (by decide) (by omega) (by omega) (by omega)]; exact cd2 i hi
        · have c' := bi_0.mp c
          rw [if_neg c'] at ex
          rw [q4.2.1]
          exact bad k3 μ4 ex E3.2.2.2.1 (frT.tr (v := u + c0.length + c1.length + c2.length) (by omega) (Nat.le_refl _) tt (frT.of q4.2.2.2))
      · have r3' : q_part T W 203 k2 = (k3, none) := r3
        have l3 := pg_n g3 (by omega) r3'
        have ex : q_text T W = (k3, none) := by unfold q_text; rw [r1']; dsimp only; rw [r2']; dsimp only; rw [r3']
        exact f_text (u := u) (q := q) (μ := μ) 0 3 (q + 3) μ3 (by omega) F3 p3 (by omega) (by omega) (frT.tr (Nat.le_refl _) (Nat.le_refl _) f0 (frT.tr (Nat.le_add_right _ _) (Nat.le_succ _) t1 (frT.tr (Nat.le_add_right _ _) (Nat.le_succ _) t2 t3))) b3 fun μ' t' => bad k3 μ' ex l3.2 t'
    · have r2' : q_part T W 202 k1 = (k2, none) := r2
      have l2 := pg_n g2 (by omega) r2'
      have ex : q_text T W = (k2, none) := by unfold q_text; rw [r1']; dsimp only; rw [r2']
      exact f_text (u := u) (q := q) (μ := μ) 1 2 (q + 2) μ2 (by omega) F2 p2 (by omega) (by omega) (frT.tr (Nat.le_refl _) (Nat.le_refl _) f0 (frT.tr (Nat.le_add_right _ _) (Nat.le_succ _) t1 t2)) b2 fun μ' t' => bad k2 μ' ex l2.2 t'
  · have r1' : q_part T W 201 0 = (k1, none) := r1
    have l1 := pg_n g1 (by omega) r1'
    have ex : q_text T W = (k1, none) := by unfold q_text; rw [r1']
    exact f_text (u := u) (q := q) (μ := μ) 2 1 (q + 1) μ1 (by omega) F1 p1 (by omega) (by omega) (frT.tr (Nat.le_refl _) (Nat.le_refl _) f0 t1) b1 fun μ' t' => bad k1 μ' ex l1.2 t'
end TX
