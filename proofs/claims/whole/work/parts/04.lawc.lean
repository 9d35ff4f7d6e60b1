theorem si_l800 : (List.range' 800 40).all (si_ck 234) = true := by decide +kernel
theorem si_l840 : (List.range' 840 40).all (si_ck 234) = true := by decide +kernel
theorem si_l880 : (List.range' 880 40).all (si_ck 234) = true := by decide +kernel
theorem si_l920 : (List.range' 920 40).all (si_ck 234) = true := by decide +kernel
theorem si_l960 : (List.range' 960 40).all (si_ck 234) = true := by decide +kernel
theorem si_l1000 : (List.range' 1000 40).all (si_ck 234) = true := by decide +kernel
theorem si_l1040 : (List.range' 1040 40).all (si_ck 234) = true := by decide +kernel
theorem si_l1080 : (List.range' 1080 40).all (si_ck 234) = true := by decide +kernel
theorem si_lall {a n pc : Nat} (h : (List.range' a n).all (si_ck 234) = true) (h1 : a ≤ pc) (h2 : pc < a + n) : si_ck 234 pc = true := List.all_eq_true.mp h pc (List.mem_range'_1.mpr ⟨h1, h2⟩)
theorem si_o234 : si_ckJ 234 := by
  intro pc hp
  have hp : pc < 1120 := hp
  rcases Nat.lt_or_ge pc 40 with q0 | q0
  · exact si_lall si_l0 (by omega) (by omega)
  rcases Nat.lt_or_ge pc 80 with q40 | q40
  · exact si_lall si_l40 (by omega) (by omega)
  rcases Nat.lt_or_ge pc 120 with q80 | q80
  · exact si_lall si_l80 (by omega) (by omega)
  rcases Nat.lt_or_ge pc 160 with q120 | q120
  · exact si_lall si_l120 (by omega) (by omega)
  rcases Nat.lt_or_ge pc 200 with q160 | q160
  · exact si_lall si_l160 (by omega) (by omega)
  rcases Nat.lt_or_ge pc 240 with q200 | q200
  · exact si_lall si_l200 (by omega) (by omega)
  rcases Nat.lt_or_ge pc 280 with q240 | q240
  · exact si_lall si_l240 (by omega) (by omega)
  rcases Nat.lt_or_ge pc 320 with q280 | q280
  · exact si_lall si_l280 (by omega) (by omega)
  rcases Nat.lt_or_ge pc 360 with q320 | q320
  · exact si_lall si_l320 (by omega) (by omega)
  rcases Nat.lt_or_ge pc 400 with q360 | q360
  · exact si_lall si_l360 (by omega) (by omega)
  rcases Nat.lt_or_ge pc 440 with q400 | q400
  · exact si_lall si_l400 (by omega) (by omega)
  rcases Nat.lt_or_ge pc 480 with q440 | q440
  · exact si_lall si_l440 (by omega) (by omega)
  rcases Nat.lt_or_ge pc 520 with q480 | q480
  · exact si_lall si_l480 (by omega) (by omega)
  rcases Nat.lt_or_ge pc 560 with q520 | q520
  · exact si_lall si_l520 (by omega) (by omega)
  rcases Nat.lt_or_ge pc 600 with q560 | q560
  · exact si_lall si_l560 (by omega) (by omega)
  rcases Nat.lt_or_ge pc 640 with q600 | q600
  · exact si_lall si_l600 (by omega) (by omega)
  rcases Nat.lt_or_ge pc 680 with q640 | q640
  · exact si_lall si_l640 (by omega) (by omega)
  rcases Nat.lt_or_ge pc 720 with q680 | q680
  · exact si_lall si_l680 (by omega) (by omega)
  rcases Nat.lt_or_ge pc 760 with q720 | q720
  · exact si_lall si_l720 (by omega) (by omega)
  rcases Nat.lt_or_ge pc 800 with q760 | q760
  · exact si_lall si_l760 (by omega) (by omega)
  rcases Nat.lt_or_ge pc 840 with q800 | q800
  · exact si_lall si_l800 (by omega) (by omega)
  rcases Nat.lt_or_ge pc 880 with q840 | q840
  · exact si_lall si_l840 (by omega) (by omega)
  rcases Nat.lt_or_ge pc 920 with q880 | q880
  · exact si_lall si_l880 (by omega) (by omega)
  rcases Nat.lt_or_ge pc 960 with q920 | q920
  · exact si_lall si_l920 (by omega) (by omega)
  rcases Nat.lt_or_ge pc 1000 with q960 | q960
  · exact si_lall si_l960 (by omega) (by omega)
  rcases Nat.lt_or_ge pc 1040 with q1000 | q1000
  · exact si_lall si_l1000 (by omega) (by omega)
  rcases Nat.lt_or_ge pc 1080 with q1040 | q1040
  · exact si_lall si_l1040 (by omega) (by omega)
  exact si_lall si_l1080 (by omega) (by omega)
theorem si_u234 : ∀ a, a < 235 → si_ckJ a := lt_s si_u233 si_o234
theorem si_ck_all {j pc : Nat} {e : si_Ent} (h : si_code j pc = some e) : j < 235 ∧ decode (si_mB j) pc = .ok (e.1, e.2.1) ∧ si_okE (si_mO j) pc e = true := by
  have hg : (Nat.blt j 235 && Nat.blt pc (si_mZ j)) = true := by
    cases hb : (Nat.blt j 235 && Nat.blt pc (si_mZ j)) with
    | true => rfl
    | false =>
      unfold si_code at h
      rw [hb] at h
      cases h
  rw [Bool.and_eq_true] at hg
  have hj : j < 235 := Nat.le_of_ble_eq_true hg.1
  have hpc : pc < si_mZ j := Nat.le_of_ble_eq_true hg.2
  refine ⟨hj, ?_⟩
  have h1 := si_u234 j hj pc hpc
  unfold si_ck at h1
  rw [h] at h1
  simp only [Bool.and_eq_true, decide_eq_true_eq] at h1
  exact h1
