theorem k_nest : zNest ∈ lw_tbl := by decide +kernel
theorem k_ao3 : Cond.arrayOver (.object "EditFinder$ByteRow") ∈ lw_tbl := by decide +kernel
theorem k_ao4 : Cond.arrayOver (.object "EditFinder$SetRow") ∈ lw_tbl := by decide +kernel
set_option maxHeartbeats 4000000 in
set_option maxRecDepth 100000 in
theorem whole_start {p : Program} {e : Env} {s : State} {m : MethodId} {below : List Frame} {meth : Method} {c : Code} (l : Launch) {b L : Nat} {xs : Nat → Int32} (hL : L ≤ 3584) (C0 : lw_At p s m meth c b L xs) : W p l e room_1 s m #[Value.ref b] below meth c s.heap [] 0 0 (lw_Z below #[Value.ref b] s) (entryFrame m ([Value.ref b] : List Value).toArray 4) := by
  obtain ⟨hx, hb, hr, hml, hown, hts, hX, hbl, hlocks, hgv⟩ := id C0
  obtain ⟨c0, iS0, hKn0⟩ := u_known (C := RX0) (T := TX0) (N := 2) (n := 2) hts inX0 (hts (.instantiable RX0 2) ki_0)
  obtain ⟨c1, iS1, hKn1⟩ := u_known (C := RX1) (T := TX1) (N := 3) (n := 3) hts inX1 (hts (.instantiable RX1 3) ki_1)
  obtain ⟨c2, iS2, hKn2⟩ := u_known (C := RX2) (T := TX2) (N := 9) (n := 9) hts inX2 (hts (.instantiable RX2 9) ki_2)
  obtain ⟨c3, iS3, hKn3⟩ := u_known (C := RX3) (T := TX3) (N := 2) (n := 2) hts inX3 (hts (.instantiable RX3 2) ki_3)
  obtain ⟨c4, iS4, hKn4⟩ := u_known (C := RX4) (T := TX4) (N := 7) (n := 7) hts inX4 (hts (.instantiable RX4 7) ki_4)
  obtain ⟨c5, iS5, hKn5⟩ := u_known (C := RX5) (T := TX5) (N := 16) (n := 16) hts inX5 (hts (.instantiable RX5 16) ki_5)
  obtain ⟨c6, iS6, hKn6⟩ := u_known (C := RX6) (T := TX6) (N := 11) (n := 11) hts inX6 (hts (.instantiable RX6 11) ki_6)
  obtain ⟨c7, iS7, hKn7⟩ := u_known (C := RX7) (T := TX7) (N := 3) (n := 3) hts inX7 (hts (.instantiable RX7 3) ki_7)
  obtain ⟨c8, iS8, hKn8⟩ := u_known (C := RX8) (T := TX8) (N := 3) (n := 3) hts inX8 (hts (.instantiable RX8 3) ki_8)
  obtain ⟨c9, iS9, hKn9⟩ := u_known (C := RX9) (T := TX9) (N := 2) (n := 2) hts inX9 (hts (.instantiable RX9 2) ki_9)
  obtain ⟨c10, iS10, hKn10⟩ := u_known (C := RX10) (T := TX10) (N := 11) (n := 11) hts inX10 (hts (.instantiable RX10 11) ki_10)
  obtain ⟨c11, iS11, hKn11⟩ := u_known (C := RX11) (T := TX11) (N := 46) (n := 46) hts inX11 (hts (.instantiable RX11 46) ki_11)
  obtain ⟨dC, dI, hKc⟩ : ∃ (dC : Nat → ClassId) (dI : Nat → Nat → Nat), ∀ (k : Nat) (q : vw_C), vwCl[k]? = some q → u_Kn s q.1 q.2.1 q.2.2 (dC k) (dI k) := by
    refine ⟨fun k => match k with | 0 => c0 | 1 => c1 | 2 => c2 | 3 => c3 | 4 => c4 | 5 => c5 | 6 => c6 | 7 => c7 | 8 => c8 | 9 => c9 | 10 => c10 | _ => c11, fun k => match k with | 0 => iS0 | 1 => iS1 | 2 => iS2 | 3 => iS3 | 4 => iS4 | 5 => iS5 | 6 => iS6 | 7 => iS7 | 8 => iS8 | 9 => iS9 | 10 => iS10 | _ => iS11, ?_⟩
    intro k q hq
    match k, hq with
    | 0, hq => cases hq; exact hKn0
    | 1, hq => cases hq; exact hKn1
    | 2, hq => cases hq; exact hKn2
    | 3, hq => cases hq; exact hKn3
    | 4, hq => cases hq; exact hKn4
    | 5, hq => cases hq; exact hKn5
    | 6, hq => cases hq; exact hKn6
    | 7, hq => cases hq; exact hKn7
    | 8, hq => cases hq; exact hKn8
    | 9, hq => cases hq; exact hKn9
    | 10, hq => cases hq; exact hKn10
    | 11, hq => cases hq; exact hKn11
    | k + 12, hq => simp [vwCl] at hq
  obtain ⟨A0, kA0, cp0, a1_0, a2_0, a3_0⟩ := Cond.arrayClass_spec (hts (.arrayClass .byte) ka_0)
  obtain ⟨A1, kA1, cp1, a1_1, a2_1, a3_1⟩ := Cond.arrayClass_spec (hts (.arrayClass .int) ka_1)
  obtain ⟨A2, kA2, cp2, a1_2, a2_2, a3_2⟩ := Cond.arrayClass_spec (hts (.arrayClass .long) ka_2)
  obtain ⟨cp3, A3, kA3, a0_3, -, a2_3, a3_3, a1_3⟩ := Cond.arrayOver_spec (hts _ k_ao3)
  obtain ⟨cp4, A4, kA4, a0_4, -, a2_4, a3_4, a1_4⟩ := Cond.arrayOver_spec (hts _ k_ao4)
  obtain ⟨K, hK0⟩ : ∃ K : Nat → ClassId, K = (fun t => match t with | 0 => A0 | 1 => A1 | 2 => A2 | 3 => A3 | _ => A4) := ⟨_, rfl⟩
  have hT : ∀ (k : Nat) (q : ClassId × FieldType), (zt K)[k]? = some q → ArrOfT s q.1 q.2 ∧ va_RA s q.1 q.2 := by
    intro k q hq
    subst hK0
    match k, hq with
    | 0, hq => cases hq; exact ⟨fun n z => ⟨fun k h => (by cases h), kA0, a2_0, cp0, a3_0⟩, a1_0⟩
    | 1, hq => cases hq; exact ⟨fun n z => ⟨fun k h => (by cases h), kA1, a2_1, cp1, a3_1⟩, a1_1⟩
    | 2, hq => cases hq; exact ⟨fun n z => ⟨fun k h => (by cases h), kA2, a2_2, cp2, a3_2⟩, a1_2⟩
    | 3, hq => cases hq; exact ⟨fun n z => ⟨fun k h => (by cases h), kA3, a2_3, cp3, a3_3⟩, kA3, cp3, a2_3, a3_3, a0_3, a1_3⟩
    | 4, hq => cases hq; exact ⟨fun n z => ⟨fun k h => (by cases h), kA4, a2_4, cp4, a3_4⟩, kA4, cp4, a2_4, a3_4, a0_4, a1_4⟩
    | k + 5, hq => simp [zt] at hq
  have hB : zc_B p s m #[Value.ref b] meth c cL_law 4 RL ret (dC, dI) K := ⟨hx, hb, hml, hown, fun w hw => hts w (List.mem_filter.mp hw).1, hr, hlocks, ⟨hKc, hT⟩, va_Nw.of rfl (hts _ k_nest), va_AO.of (hts _ k_ao3), va_AO.of (hts _ k_ao4)⟩
  have hG : zh_G (dC, dI) K s.heap.size s.heap.size (fun _ => none) s.heap s.heap [] := ⟨⟨rfl, Nat.le_refl _, fun a x h => by cases h⟩, va_S.rf⟩
  have hl := lv_entry ([.ref b]) (n := 4) (Nat.le_of_ble_eq_true rfl)
  rw [lg_entry_eq]
  exact w_L_law_0 hB hX hbl _ _ _ s.heap.size 0 0 (fun _ => none) hG hl (law_true hL xs s.heap.size)
