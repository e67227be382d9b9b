theorem zten {args : Array Value} {s : State} (h : narrow_1.before args s = true) : ∀ j : Nat, j < 19 → (Term.elem (Jvm.Term.static "NumberDress" "TENS" "[J") (.int (Int32.ofNat j))).eval args s none [] s = some (.long (zTens j)) := fun j hj => match j, hj with
    | 0, _ => va_eqtl (zp_10 h)
    | 1, _ => va_eqtl (zp_11 h)
    | 2, _ => va_eqtl (zp_12 h)
    | 3, _ => va_eqtl (zp_13 h)
    | 4, _ => va_eqtl (zp_14 h)
    | 5, _ => va_eqtl (zp_15 h)
    | 6, _ => va_eqtl (zp_16 h)
    | 7, _ => va_eqtl (zp_17 h)
    | 8, _ => va_eqtl (zp_18 h)
    | 9, _ => va_eqtl (zp_19 h)
    | 10, _ => va_eqtl (zp_20 h)
    | 11, _ => va_eqtl (zp_21 h)
    | 12, _ => va_eqtl (zp_22 h)
    | 13, _ => va_eqtl (zp_23 h)
    | 14, _ => va_eqtl (zp_24 h)
    | 15, _ => va_eqtl (zp_25 h)
    | 16, _ => va_eqtl (zp_26 h)
    | 17, _ => va_eqtl (zp_27 h)
    | 18, _ => va_eqtl (zp_28 h)
    | j + 19, hj => absurd (show j + 19 < 19 from hj) (by omega)
theorem zE_start {args : Array Value} {s : State} (hts : ∀ w ∈ lw_tbl, w.before args s = true) (h : narrow_1.before args s = true) : ∃ gE : zG, zE gE (fun q : Nat => s.heap.size ≤ q) s := by
  have htb : ∀ w ∈ tables_1, w.before args s = true := fun w hw => hts w (List.mem_append_right _ hw)
  have hA : ∀ a : Nat, a < s.heap.size → ¬ (fun q : Nat => s.heap.size ≤ q) a := fun a h1 h2 => absurd h1 (Nat.not_lt.mpr h2)
  obtain ⟨t, et, hT⟩ := va_Tof (f := fun j => .long (zTens j)) (A := (fun q : Nat => s.heap.size ≤ q)) (N := 19) (by decide) (zp_8 h) (va_eqt (zp_9 h)) (zten h) hA
  have hZ := va_Zof (htb _ (zq_tables_1_4 _ (List.mem_of_getElem? (i := 47) rfl))) (htb _ (zq_tables_1_1 _ (List.mem_of_getElem? (i := 1) rfl))) et hA
  have hC := va_Zof (htb _ (zq_tables_1_2 _ (List.mem_of_getElem? (i := 203) rfl))) (htb _ (zq_tables_1_1 _ (List.mem_of_getElem? (i := 20) rfl))) (va_eqi (zp_2 h)) hA
  obtain ⟨o, eo⟩ := zref (zp_3 h)
  have hF := va_Zof (htb _ (zq_tables_1_2 _ (List.mem_of_getElem? (i := 223) rfl))) (htb _ (zq_tables_1_1 _ (List.mem_of_getElem? (i := 22) rfl))) eo hA
  obtain ⟨o1, e1⟩ := zref (zp_29 h)
  have h1 := va_Zof (htb _ (zq_tables_1_5 _ (List.mem_of_getElem? (i := 106) rfl))) (htb _ (zq_tables_1_1 _ (List.mem_of_getElem? (i := 14) rfl))) e1 hA
  obtain ⟨o2, e2⟩ := zref (zp_30 h)
  have h2 := va_Zof (htb _ (zq_tables_1_5 _ (List.mem_of_getElem? (i := 108) rfl))) (htb _ (zq_tables_1_1 _ (List.mem_of_getElem? (i := 14) rfl))) e2 hA
  have hst : ∀ i : Nat, ∃ q : Nat × Nat, i < nZS → zSq s i q := by
    intro i
    by_cases hi : i < nZS
    · obtain ⟨q, hq⟩ := zs_all h htb i hi
      exact ⟨q, fun _ => hq⟩
    · exact ⟨(0, 0), fun c => absurd c hi⟩
  obtain ⟨ad, had⟩ := Classical.axiomOfChoice hst
  refine ⟨(t, (fun i => (ad i).1), (fun i => (ad i).2), o), ⟨fun w hw => va_Nw.of (zNs_tab w hw) (htb w (zNs_in w hw)), ⟨hZ, hT⟩, hC, hF, fun i hi => had i hi, va_AO.of (htb _ (zq_tables_1_1 _ (List.mem_of_getElem? (i := 41) rfl))), ⟨?_, o1, o2, h1, h2, zL_of (htb _ (zq_tables_1_5 _ (List.mem_of_getElem? (i := 106) rfl))) hA, zL_of (htb _ (zq_tables_1_5 _ (List.mem_of_getElem? (i := 108) rfl))) hA, va_Nc.of (zp_44 h)⟩⟩⟩
  intro a w hw
  have hm := List.mem_filter.mp hw
  have hp := hm.2
  unfold zXp at hp
  rw [Bool.and_eq_true] at hp
  exact va_Nw.use hp.1 (va_Nw.of hp.1 (hts w (zX_in w hw)))
