section ZJ
variable {p : Program} {l : Launch} {e : Env} {R : Room} {s : State} {m : MethodId} {args : Array Value} {below : List Frame} {meth : Method} {c : Code} {H : Heap} {locs : List Loc} {cells slots : Nat} {Q : State → Prop}
variable {cc : ByteArray} {pc : Nat} {ls : Array Slot} {rest st0 : List Value} {D : va_G} {K : Nat → ClassId} {a : Nat} {b0 N : Nat} {h h1 : zh_H} {mL : Nat} {own : String} {ret : Option FieldType}
variable {C : String} {T : u_T} {Nf ci index k t : Nat} {ty0 : Nat → FieldType}
theorem zr_iald {i v : Int32} (hB : zc_B p s m args meth c cc mL own ret D K) (hG : zh_G D K b0 N h s.heap H locs) (hg : aI h 1 a i = some v) (hdg : decode cc pc = .ok (.iaload, 1))
    (kk : W p l e R s m args below meth c H locs cells slots Q (F0 m (pc + 1) ls (.int v :: rest))) : W p l e R s m args below meth c H locs cells slots Q (F0 m pc ls (.int i :: .ref a :: rest)) := by
  obtain ⟨n, f, ha, hin, rfl⟩ := aI_s hg
  obtain ⟨hx, hb, hml, hown, hts, hr, hlocks, hK, hNw⟩ := hB
  exact va_iald hx hb hK (hG.at ha) 0 1 rfl rfl hin hdg kk
theorem zr_bald {i v : Int32} (hB : zc_B p s m args meth c cc mL own ret D K) (hG : zh_G D K b0 N h s.heap H locs) (hg : aI h 0 a i = some v) (hdg : decode cc pc = .ok (.baload, 1))
    (kk : W p l e R s m args below meth c H locs cells slots Q (F0 m (pc + 1) ls (.int v :: rest))) : W p l e R s m args below meth c H locs cells slots Q (F0 m pc ls (.int i :: .ref a :: rest)) := by
  obtain ⟨n, f, ha, hin, rfl⟩ := aI_s hg
  obtain ⟨hx, hb, hml, hown, hts, hr, hlocks, hK, hNw⟩ := hB
  exact va_bald hx hb hK (hG.at ha) 0 0 rfl rfl hin hdg kk
theorem zr_lald {i : Int32} {v : Int64} (hB : zc_B p s m args meth c cc mL own ret D K) (hG : zh_G D K b0 N h s.heap H locs) (hg : aL h a i = some v) (hdg : decode cc pc = .ok (.laload, 1))
    (kk : W p l e R s m args below meth c H locs cells slots Q (F0 m (pc + 1) ls (.long v :: rest))) : W p l e R s m args below meth c H locs cells slots Q (F0 m pc ls (.int i :: .ref a :: rest)) := by
  obtain ⟨n, f, ha, hin, rfl⟩ := aL_s hg
  obtain ⟨hx, hb, hml, hown, hts, hr, hlocks, hK, hNw⟩ := hB
  exact va_lald hx hb hK (hG.at ha) 0 2 rfl rfl hin hdg kk
theorem zr_aald {i : Int32} {v : Nat} (ht : ∃ E : String, (zt K)[t]? = some (K t, .object E)) (hB : zc_B p s m args meth c cc mL own ret D K) (hG : zh_G D K b0 N h s.heap H locs) (hg : aR h t a i = some v) (hdg : decode cc pc = .ok (.aaload, 1))
    (kk : W p l e R s m args below meth c H locs cells slots Q (F0 m (pc + 1) ls (.ref v :: rest))) : W p l e R s m args below meth c H locs cells slots Q (F0 m pc ls (.int i :: .ref a :: rest)) := by
  obtain ⟨n, f, ha, hin, hv⟩ := aR_s hg
  obtain ⟨hx, hb, hml, hown, hts, hr, hlocks, hK, hNw⟩ := hB
  obtain ⟨E, ht⟩ := ht
  refine va_aldq hx hb hK (hG.at ha) 0 t rfl ht hin hdg ?_
  rw [hv]
  exact kk
theorem zr_alen {v : Int32} (ht : ∃ ty : FieldType, (zt K)[t]? = some (K t, ty)) (hB : zc_B p s m args meth c cc mL own ret D K) (hG : zh_G D K b0 N h s.heap H locs) (hg : aN h t a = some v) (hdg : decode cc pc = .ok (.arraylength, 1))
    (kk : W p l e R s m args below meth c H locs cells slots Q (F0 m (pc + 1) ls (.int v :: rest))) : W p l e R s m args below meth c H locs cells slots Q (F0 m pc ls (.ref a :: rest)) := by
  obtain ⟨x, ha, rfl⟩ := aN_s hg
  obtain ⟨hx, hb, hml, hown, hts, hr, hlocks, hK, hNw⟩ := hB
  obtain ⟨ty, ht⟩ := ht
  exact va_alen hx hb hK (hG.at ha) 0 t rfl ht rfl hdg kk
theorem zr_iast {i x : Int32} (hB : zc_B p s m args meth c cc mL own ret D K) (hG : zh_G D K b0 N h s.heap H locs) (hg : sI h a i x = some h1) (hdg : decode cc pc = .ok (.iastore, 1))
    (kk : ∀ (H1 : Heap) (locs1 : List Loc), zh_G D K b0 N h1 s.heap H1 locs1 → W p l e R s m args below meth c H1 locs1 cells slots Q (F0 m (pc + 1) ls rest)) : W p l e R s m args below meth c H locs cells slots Q (F0 m pc ls (.int x :: .int i :: .ref a :: rest)) := by
  obtain ⟨n, f, ha, hin, rfl⟩ := sI_s hg
  obtain ⟨hx, hb, hml, hown, hts, hr, hlocks, hK, hNw⟩ := hB
  refine W.iast hx hb (hG.1.2.2 a _ ha).2.1 ((hK.2 1 _ rfl).1 n (fun j => .int (f j))) (fun q => by cases q) (by show ¬ (i < 0 ∨ (arrV _ _ _).slots.size ≤ _); rw [arrV_size]; exact hin) rfl rfl hdg fun H1 e z oq => ?_
  refine kk H1 _ (hG.set ha ?_ zh_ok_i z oq)
  show H1[a]? = some (vp_cell _ _)
  rw [e]
  rw [vp_cell_i, vp_cell_i, arrV_store]
  congr 2
  funext q
  by_cases hq : q = i.toNatClampNeg
  · subst hq
    simp [updV, upd]
  · simp [updV, upd, hq]
theorem zr_bast {i x : Int32} (hB : zc_B p s m args meth c cc mL own ret D K) (hG : zh_G D K b0 N h s.heap H locs) (hg : sB h a i x = some h1) (hdg : decode cc pc = .ok (.bastore, 1))
    (kk : ∀ (H1 : Heap) (locs1 : List Loc), zh_G D K b0 N h1 s.heap H1 locs1 → W p l e R s m args below meth c H1 locs1 cells slots Q (F0 m (pc + 1) ls rest)) : W p l e R s m args below meth c H locs cells slots Q (F0 m pc ls (.int x :: .int i :: .ref a :: rest)) := by
  obtain ⟨n, f, ha, hin, rfl⟩ := sB_s hg
  obtain ⟨hx, hb, hml, hown, hts, hr, hlocks, hK, hNw⟩ := hB
  have hok := (hG.1.2.2 a _ ha).2.2 n f rfl
  refine W.bast hx hb (hG.1.2.2 a _ ha).2.1 ((hK.2 0 _ rfl).1 n (fun j => .int (f j))) (fun q => by cases q) (by show ¬ (i < 0 ∨ (arrV _ _ _).slots.size ≤ _); rw [arrV_size]; exact hin) rfl rfl hdg fun H1 e z oq => ?_
  refine kk H1 _ (hG.set ha ?_ (zh_ok_b fun j => ?_) z oq)
  · show H1[a]? = some (vp_cell _ _)
    rw [e]
    rw [vp_cell_i, vp_cell_i, arrV_store]
    congr 2
    funext q
    by_cases hq : q = i.toNatClampNeg
    · subst hq
      simp [updV, upd]
      try rfl
    · simp [updV, upd, hq]
  · by_cases hj : j = i.toNatClampNeg
    · subst hj
      rw [pk_us]
      exact pk_fb x
    · rw [pk_un hj]
      exact hok j
theorem zr_last {i : Int32} {x : Int64} (hB : zc_B p s m args meth c cc mL own ret D K) (hG : zh_G D K b0 N h s.heap H locs) (hg : sL h a i x = some h1) (hdg : decode cc pc = .ok (.lastore, 1))
    (kk : ∀ (H1 : Heap) (locs1 : List Loc), zh_G D K b0 N h1 s.heap H1 locs1 → W p l e R s m args below meth c H1 locs1 cells slots Q (F0 m (pc + 1) ls rest)) : W p l e R s m args below meth c H locs cells slots Q (F0 m pc ls (.long x :: .int i :: .ref a :: rest)) := by
  obtain ⟨n, f, ha, hin, rfl⟩ := sL_s hg
  obtain ⟨hx, hb, hml, hown, hts, hr, hlocks, hK, hNw⟩ := hB
  refine W.last hx hb (hG.1.2.2 a _ ha).2.1 ((hK.2 2 _ rfl).1 n (fun j => .long (f j))) (fun q => by cases q) (by show ¬ (i < 0 ∨ (arrV _ _ _).slots.size ≤ _); rw [arrV_size]; exact hin) rfl rfl hdg fun H1 e z oq => ?_
  refine kk H1 _ (hG.set ha ?_ zh_ok_l z oq)
  show H1[a]? = some (vp_cell _ _)
  rw [e]
  rw [vp_cell_l, vp_cell_l, arrV_store]
  congr 2
  funext q
  by_cases hq : q = i.toNatClampNeg
  · subst hq
    simp [updV, vp_updL]
  · simp [updV, vp_updL, hq]
theorem zr_aast {i : Int32} {v : Nat} {r : vw_C} (ht : (zt K)[t]? = some (K t, .object r.1)) (hc : vwCl[ci]? = some r) (hB : zc_B p s m args meth c cc mL own ret D K) (hG : zh_G D K b0 N h s.heap H locs) (hg : sR h t ci a i v = some h1) (hdg : decode cc pc = .ok (.aastore, 1))
    (kk : ∀ (H1 : Heap) (locs1 : List Loc), zh_G D K b0 N h1 s.heap H1 locs1 → W p l e R s m args below meth c H1 locs1 cells slots Q (F0 m (pc + 1) ls rest)) : W p l e R s m args below meth c H locs cells slots Q (F0 m pc ls (.ref v :: .int i :: .ref a :: rest)) := by
  obtain ⟨n, f, vs, ha, hv, hin, rfl⟩ := sR_s hg
  obtain ⟨hx, hb, hml, hown, hts, hr, hlocks, hK, hNw⟩ := hB
  have hlt : i.toNatClampNeg < n := Nat.not_le.mp fun q => hin (Or.inr q)
  have h0 : ¬ i < 0 := fun q => hin (Or.inl q)
  obtain ⟨r', hr', cellV, g1, g2, g3, -⟩ := (hG.1.2.2 v _ hv).2.1
  have hcls := (hK.1 ci r hc).2
  obtain ⟨kA, comp, k1, k2, k3, -⟩ := (hK.2 t _ ht).2
  have hcomp : comp = D.1 ci := Option.some.inj (k3.symm.trans hcls.1)
  subst hcomp
  obtain ⟨kC, hkC, -⟩ := hcls.2
  refine W.aast hx hb (hG.1.2.2 a _ ha).2.1 (fun q h => by cases h) (fun h => by cases h) k1 k2 rfl hkC ⟨h0, by show _ < (arrV _ _ _).slots.size; rw [arrV_size]; exact hlt⟩ g1 (fun q h => by rw [g3] at h; cases h) (by rw [g2]; exact hkC) (by rw [g2]; exact va_assign hcls) rfl rfl hdg fun H1 e z oq => ?_
  refine kk H1 _ (hG.set ha ?_ zh_ok_q z oq)
  show H1[a]? = some (vp_cell _ _)
  rw [e]
  rw [vp_cell_q, vp_cell_q, arrV_store]
  congr 2
  funext q
  by_cases hq : q = i.toNatClampNeg
  · subst hq
    simp [updV, va_up, va_rf]
  · simp [updV, va_up, hq]
theorem zr_copy {a0 : Nat} {sp dp n : Int32} (hlink : Cond.methodLink own index arraycopyName ∈ lw_tbl) (hnat : Cond.native arraycopyName ∈ lw_tbl) (hstat : Cond.static arraycopyName ∈ lw_tbl) (hini : Cond.initialized "java/lang/System" ∈ lw_tbl) (hls : ls.size = mL) (hB : zc_B p s m args meth c cc mL own ret D K) (hG : zh_G D K b0 N h s.heap H locs) (hg : cpB h a0 sp a dp n = some h1)
    (hframes : 1 ≤ R.frames) (hlocals : (rest.map fun v => v.category).sum + (nativeFrameWords "java/lang/System" "arraycopy" 5 + 11) ≤ R.locals) (hdg : decode cc pc = .ok (.invokestatic index, 3))
    (kk : ∀ (H1 : Heap) (locs1 : List Loc), zh_G D K b0 N h1 s.heap H1 locs1 → W p l e R s m args below meth c H1 locs1 cells slots Q (F0 m (pc + 3) ls rest)) : W p l e R s m args below meth c H locs cells slots Q (F0 m pc ls (.int n :: .int dp :: .ref a :: .int sp :: .ref a0 :: rest)) := by
  obtain ⟨n0, n1, f, g, ha0, ha1, ⟨e1, e2, e3⟩, h4, h5, rfl⟩ := cpB_s hg
  obtain ⟨hx, hb, hml, hown, hts, hr, hlocks, hK, hNw⟩ := hB
  have nn : ∀ z : Int32, ¬ z < 0 → z.toInt = (z.toNatClampNeg : Int) := by
    intro z hz
    have hz0 : (0 : Int) ≤ z.toInt := by
      have := Int32.not_lt.mp hz
      simpa using Int32.le_iff_toInt_le.mp this
    show z.toInt = ((z.toInt.toNat : Nat) : Int)
    omega
  intro T hT X
  have hc0 : H[a0]? = some (vp_cell (K 0) (n0, .inl f)) := (hG.1.2.2 a0 _ ha0).2.1
  have hc1 : H[a]? = some (vp_cell (K 0) (n1, .inl g)) := (hG.1.2.2 a _ ha1).2.1
  have ok0 := (hG.1.2.2 a0 _ ha0).2.2 n0 f rfl
  have ok1 := (hG.1.2.2 a _ ha1).2.2 n1 g rfl
  obtain ⟨-, k0, hk0, cm0, hkk0⟩ := (hK.2 0 _ rfl).1 n0 (fun j => .int (f j))
  obtain ⟨-, k1, hk1, cm1, hkk1⟩ := (hK.2 0 _ rfl).1 n1 (fun j => .int (g j))
  obtain ⟨vm', X', step⟩ := X.arraycopy hx hown (hts _ (zin hlink rfl)) (hts _ (zin hnat rfl)) (hts _ (zin hstat rfl)) (hts _ (zin hini rfl)) (src := a0) (dst := a) (cs := vp_cell (K 0) (n0, .inl f)) (cd := vp_cell (K 0) (n1, .inl g)) (srcPos := sp) (destPos := dp) (n := n) (by rw [hT]; exact hc0) (by rw [hT]; exact hc1)
    (fun _ h => by cases h) (fun _ h => by cases h) (fun h => by cases h) (fun h => by cases h) hk0 hk1 hkk0 hkk1 (by simp [refKind]) e1 e2 e3
    (by rw [nn sp e1, nn n e3]; show ¬ _ > ((arrV (K 0) n0 (fun j => .int (f j))).slots.size : Int); rw [arrV_size]; omega)
    (by rw [nn dp e2, nn n e3]; show ¬ _ > ((arrV (K 0) n1 (fun j => .int (g j))).slots.size : Int); rw [arrV_size]; omega)
    (fun vm₁ _ i hi => by
      have e : (vp_cell (K 0) (n0, .inl f)).slots.getD (sp.toNatClampNeg + i) .null = .int (f (sp.toNatClampNeg + i)) := by
        show (arrV (K 0) n0 (fun j => .int (f j))).slots.getD _ _ = _
        rw [Array.getD_eq_getD_getElem?, arrV_read _ _ (by omega)]
        rfl
      refine ⟨?_, ?_⟩
      · rw [e]
        exact ok0 _
      · rw [e]
        exact trivial)
    (g := F0 m pc ls (.int n :: .int dp :: .ref a :: .int sp :: .ref a0 :: rest)) rfl (by rw [hml, hls]) (rest := rest) rfl (by rw [hb]; exact hdg) hframes (by show 2 * 0 + _ + _ ≤ _; omega)
  have e1 : copied (vp_cell (K 0) (n0, .inl f)) (vp_cell (K 0) (n1, .inl g)) sp dp n = vp_cell (K 0) (n1, .inl (va_cpy f g sp.toNatClampNeg dp.toNatClampNeg n.toNatClampNeg)) := va_copied (fun z => .int z) (K 0) (K 0) f g h4
  rw [e1] at X' step
  have hl : a < H.size := (Array.getElem?_eq_some_iff.mp hc1).1
  have hheap : ((T.setVm vm').setCell a (vp_cell (K 0) (n1, .inl (va_cpy f g sp.toNatClampNeg dp.toNatClampNeg n.toNatClampNeg)))).heap = H.setIfInBounds a (vp_cell (K 0) (n1, .inl (va_cpy f g sp.toNatClampNeg dp.toNatClampNeg n.toNatClampNeg))) := by rw [← hT]; rfl
  have oq : ∀ q : Nat, q ≠ a → (H.setIfInBounds a (vp_cell (K 0) (n1, .inl (va_cpy f g sp.toNatClampNeg dp.toNatClampNeg n.toNatClampNeg))))[q]? = H[q]? := fun q hq => by simp [Array.getElem?_setIfInBounds, Ne.symm hq]
  have hba := (hG.1.2.2 a _ ha1).1
  have hG1 := hG.set (k := 0) (y := .inl (0, n1, .inl (va_cpy f g sp.toNatClampNeg dp.toNatClampNeg n.toNatClampNeg))) ha1 (show (H.setIfInBounds a _)[a]? = some _ by simp [Array.getElem?_setIfInBounds, hl]) (zh_ok_b fun j => by unfold va_cpy; split; exact ok0 _; exact ok1 _) (by simp) oq
  obtain ⟨t, a1, b1⟩ := kk _ _ ⟨hG1.1, ⟨hG1.2.1, hG1.2.2.1, fun q hq => by
      rcases List.mem_append.mp hq with h | h
      · exact hG.2.2.2 q h
      · obtain ⟨z, -, hz⟩ := List.mem_map.mp h
        rw [← hz]
        exact hba⟩⟩ _ hheap X'
  exact ⟨t, step t a1, b1⟩
theorem zr_new {fs : List Value} (hB : zc_B p s m args meth c cc mL own ret D K) (hG : zh_G D K b0 N h s.heap H locs) (F : zF ci C T Nf ty0) (hcl : Cond.classLink own index C ∈ lw_tbl) (hinst : Cond.instantiable C Nf ∈ lw_tbl) (hini : Cond.initialized C ∈ lw_tbl) (hfs : ∀ j, j < Nf → defaultValue (ty0 j) = vp_V fs j) (hroom : cells + 1 ≤ R.cells ∧ slots + Nf ≤ R.slots) (hdg : decode cc pc = .ok (.new index, 3))
    (kk : ∀ (H1 : Heap), zh_G D K b0 (N + 1) (zh_up h N (.inr (ci, fs))) s.heap H1 locs → W p l e R s m args below meth c H1 locs (cells + 1) (slots + Nf) Q (F0 m (pc + 3) ls (.ref N :: rest))) : W p l e R s m args below meth c H locs cells slots Q (F0 m pc ls rest) := by
  obtain ⟨hx, hb, hml, hown, hts, hr, hlocks, hK, hNw⟩ := hB
  obtain ⟨hc, hin0, hty, hnm⟩ := F
  have hKn := hK.1 ci _ hc
  refine W.newcK hx hb hown (hts _ (zin hcl rfl)) (hts _ (zin hinst rfl)) (hts _ (zin hini rfl)) rfl hdg hroom.1 hroom.2 hKn.2.1 hG.1.1 fun H1 kC hkC e1 z1 o1 => ?_
  exact kk H1 (hG.push ⟨_, hc, (u_born ty0 hts (u_ws_good hin0) hKn hkC e1 hty).to hfs⟩ zh_ok_o z1 o1)
theorem zr_newa {atype : ArrayType} {ty : FieldType} {n : Int32} {a0 : vp_A} (harr : Cond.arrayClass (newarray.typeOf atype) ∈ lw_tbl) (hty : newarray.typeOf atype = ty) (ht : (zt K)[t]? = some (K t, ty)) (hB : zc_B p s m args meth c cc mL own ret D K) (hG : zh_G D K b0 N h s.heap H locs)
    (ha : ∀ cA : ClassId, vp_cell cA a0 = arrV cA n.toNatClampNeg (fun _ => defaultValue ty)) (hok : zh_ok (.inl (t, a0))) (hn : ¬ n < 0 ∧ n.toNatClampNeg * componentBytes ty ≤ 536870912) (hroom : cells + 1 ≤ R.cells ∧ slots + n.toNatClampNeg ≤ R.slots) (hdg : decode cc pc = .ok (.newarray atype, 2))
    (kk : ∀ (H1 : Heap), zh_G D K b0 (N + 1) (zh_up h N (.inl (t, a0))) s.heap H1 locs → W p l e R s m args below meth c H1 locs (cells + 1) (slots + n.toNatClampNeg) Q (F0 m (pc + 2) ls (.ref N :: rest))) : W p l e R s m args below meth c H locs cells slots Q (F0 m pc ls (.int n :: rest)) := by
  obtain ⟨hx, hb, hml, hown, hts, hr, hlocks, hK, hNw⟩ := hB
  subst hty
  refine va_newaK hx hb (hts _ (zin harr rfl)) rfl hdg rfl hn.1 rfl hn.2 hroom.1 hroom.2 hG.1.1 fun H1 cA' e1 z1 o1 hAr hNm => ?_
  have hra : s.vm.findClass ("[" ++ (newarray.typeOf atype).toString) = some (K t) := by
    have := (hK.2 t _ ht).2
    cases atype <;> exact this
  have hcc : cA' = K t := Option.some.inj (hNm.symm.trans hra)
  subst hcc
  refine kk H1 (hG.push ?_ hok z1 o1)
  show H1[N]? = some (vp_cell _ _)
  rw [ha]
  exact e1
theorem zr_newq {n : Int32} {E : String} (hclink : Cond.classLink own index E ∈ lw_tbl) (hover : E = "EditFinder$ByteRow" ∨ E = "EditFinder$SetRow") (ht : (zt K)[t]? = some (K t, .object E)) (hB : zc_B p s m args meth c cc mL own ret D K) (hG : zh_G D K b0 N h s.heap H locs)
    (hn : ¬ n < 0 ∧ n.toNatClampNeg * 4 ≤ 536870912) (hroom : cells + 1 ≤ R.cells ∧ slots + n.toNatClampNeg ≤ R.slots) (hdg : decode cc pc = .ok (.anewarray index, 3))
    (kk : ∀ (H1 : Heap), zh_G D K b0 (N + 1) (zh_up h N (.inl (t, n.toNatClampNeg, .inr (.inr (.inr (.inr (fun _ => none))))))) s.heap H1 locs → W p l e R s m args below meth c H1 locs (cells + 1) (slots + n.toNatClampNeg) Q (F0 m (pc + 3) ls (.ref N :: rest))) : W p l e R s m args below meth c H locs cells slots Q (F0 m pc ls (.int n :: rest)) := by
  obtain ⟨hx, hb, hml, hown, hts, hr, hlocks, hK, hNw⟩ := hB
  have hao : va_AO E s := by
    rcases hover with rfl | rfl
    · exact hNw.2.1
    · exact hNw.2.2
  refine W.anew hx hb hown (hts _ (zin hclink rfl)) (va_AO.use hao) rfl hdg rfl hn.1 hn.2 hroom.1 hroom.2 fun cA' kA comp f1 f2 f3 f4 => ?_
  have hs : H.size = N := hG.1.1
  generalize hH1 : H.push ({ cls := cA', slots := Array.replicate n.toNatClampNeg .null, vm := .none } : Cell) = H1
  have z1 : H1.size = N + 1 := by rw [← hH1, Array.size_push, hs]
  have e1 : H1[N]? = some (arrV cA' n.toNatClampNeg (fun _ => .null)) := by rw [← hH1, ← hs, Array.getElem?_push_size, ← arrV_new]
  have o1 : ∀ q : Nat, q < N → H1[q]? = H[q]? := fun q hq => by rw [← hH1, Array.getElem?_push, if_neg (by omega)]
  obtain ⟨-, _, _, -, -, -, hra⟩ := (hK.2 t _ ht)
  have hcc : cA' = K t := Option.some.inj (f1.symm.trans hra)
  subst hcc
  rw [hs]
  refine kk H1 (hG.push ?_ zh_ok_q z1 o1)
  show H1[N]? = some (vp_cell _ _)
  rw [vp_cell_q]
  exact e1
theorem zr_oinit {idx : Nat} (hl : Cond.methodLink own idx Lib.objectInit ∈ lw_tbl) (hi : Cond.instanceMethod Lib.objectInit ∈ lw_tbl) (hcd : Cond.code Lib.objectInit ⟨#[0xb1]⟩ 1 none ∈ lw_tbl) (hls : ls.size = mL) (hB : zc_B p s m args meth c cc mL own ret D K) (hdg : decode cc pc = .ok (.invokespecial idx, 3)) (hframes : 1 ≤ R.frames) (hlocals : (rest.map fun v => v.category).sum + 12 ≤ R.locals)
    (kk : W p l e R s m args below meth c H locs cells slots Q (F0 m (pc + 3) ls rest)) : W p l e R s m args below meth c H locs cells slots Q (F0 m pc ls (.ref a :: rest)) := by
  obtain ⟨hx, hb, hml, hown, hts, hr, hlocks, hK, hNw⟩ := hB
  refine W.objInit hx hb hown (hts _ (zin hl rfl)) (hts _ (zin hi rfl)) (hts _ (zin hcd rfl)) rfl (by rw [hml]; exact hls) rfl hdg hframes (by show 2 * 0 + _ + 12 ≤ _; omega) ?_
  exact W.eq (g2 := F0 m (pc + 3) ls rest) rfl kk
theorem zr_min {x y : Int32} {idx : Nat} (hl : Cond.methodLink own idx Lib.Math.min.name ∈ lw_tbl) (hst : Cond.static Lib.Math.min.name ∈ lw_tbl) (hi : Cond.initialized "java/lang/Math" ∈ lw_tbl) (hcd : Cond.code Lib.Math.min.name Lib.Math.min.code 2 (some .int) ∈ lw_tbl) (hls : ls.size = mL) (hB : zc_B p s m args meth c cc mL own ret D K) (hdg : decode cc pc = .ok (.invokestatic idx, 3)) (hframes : 1 ≤ R.frames) (hlocals : (rest.map fun v => v.category).sum + 13 ≤ R.locals) (hcs : cells ≤ R.cells ∧ slots ≤ R.slots)
    (kk : W p l e R s m args below meth c H locs cells slots Q (F0 m (pc + 3) ls (.int (zmin x y) :: rest))) : W p l e R s m args below meth c H locs cells slots Q (F0 m pc ls (.int y :: .int x :: rest)) := by
  obtain ⟨hx, hb, hml, hown, hts, hr, hlocks, hK, hNw⟩ := hB
  exact va_mmin hx hb (hml.trans hls.symm) hown (hts _ (zin hl rfl)) (hts _ (zin hst rfl)) (hts _ (zin hi rfl)) (hts _ (zin hcd rfl)) hframes hlocals hcs.1 hcs.2 hdg kk
theorem zr_max {x y : Int32} {idx : Nat} (hl : Cond.methodLink own idx Lib.Math.max.name ∈ lw_tbl) (hst : Cond.static Lib.Math.max.name ∈ lw_tbl) (hi : Cond.initialized "java/lang/Math" ∈ lw_tbl) (hcd : Cond.code Lib.Math.max.name Lib.Math.max.code 2 (some .int) ∈ lw_tbl) (hls : ls.size = mL) (hB : zc_B p s m args meth c cc mL own ret D K) (hdg : decode cc pc = .ok (.invokestatic idx, 3)) (hframes : 1 ≤ R.frames) (hlocals : (rest.map fun v => v.category).sum + 13 ≤ R.locals) (hcs : cells ≤ R.cells ∧ slots ≤ R.slots)
    (kk : W p l e R s m args below meth c H locs cells slots Q (F0 m (pc + 3) ls (.int (zmax x y) :: rest))) : W p l e R s m args below meth c H locs cells slots Q (F0 m pc ls (.int y :: .int x :: rest)) := by
  obtain ⟨hx, hb, hml, hown, hts, hr, hlocks, hK, hNw⟩ := hB
  exact va_mmax hx hb (hml.trans hls.symm) hown (hts _ (zin hl rfl)) (hts _ (zin hst rfl)) (hts _ (zin hi rfl)) (hts _ (zin hcd rfl)) hframes hlocals hcs.1 hcs.2 hdg kk
theorem zr_abs {x : Int32} {idx : Nat} (hl : Cond.methodLink own idx Lib.Math.abs.name ∈ lw_tbl) (hst : Cond.static Lib.Math.abs.name ∈ lw_tbl) (hi : Cond.initialized "java/lang/Math" ∈ lw_tbl) (hcd : Cond.code Lib.Math.abs.name Lib.Math.abs.code 1 (some .int) ∈ lw_tbl) (hls : ls.size = mL) (hB : zc_B p s m args meth c cc mL own ret D K) (hdg : decode cc pc = .ok (.invokestatic idx, 3)) (hframes : 1 ≤ R.frames) (hlocals : (rest.map fun v => v.category).sum + 13 ≤ R.locals) (hcs : cells ≤ R.cells ∧ slots ≤ R.slots)
    (kk : W p l e R s m args below meth c H locs cells slots Q (F0 m (pc + 3) ls (.int (zabs x) :: rest))) : W p l e R s m args below meth c H locs cells slots Q (F0 m pc ls (.int x :: rest)) := by
  obtain ⟨hx, hb, hml, hown, hts, hr, hlocks, hK, hNw⟩ := hB
  exact va_mabs hx hb (hml.trans hls.symm) hown (hts _ (zin hl rfl)) (hts _ (zin hst rfl)) (hts _ (zin hi rfl)) (hts _ (zin hcd rfl)) hframes hlocals hcs.1 hcs.2 hdg kk
/-! ends -/
theorem zr_iret {post : Option Value → Nat → zh_H → Prop} {v : Int32} (hB : zc_B p s m args meth c cc mL own (some .int) D K) (hG : zh_G D K b0 N h s.heap H locs) (hq : post (some (.int v)) N h) (hdg : decode cc pc = .ok (.ireturn, 1)) : W p l e R s m args below meth c H locs cells slots (MQ below (zc_Q D K b0 post) args s cells slots (fun q => b0 ≤ q)) (F0 m pc ls [.int v]) := by
  obtain ⟨hx, hb, hml, hown, hts, hr, hlocks, hK⟩ := hB
  exact W.iret hx hb hr (fun t ht hW => ⟨⟨_, N, h, rfl, hq, by rw [ht]; exact hG.1⟩, hG.2.F ht⟩) hG.2.2.2 hdg
theorem zr_zret {post : Option Value → Nat → zh_H → Prop} {v : Int32} (hB : zc_B p s m args meth c cc mL own (some .boolean) D K) (hG : zh_G D K b0 N h s.heap H locs) (hn : v = 0 ∨ v = 1) (hq : post (some (.int v)) N h) (hdg : decode cc pc = .ok (.ireturn, 1)) : W p l e R s m args below meth c H locs cells slots (MQ below (zc_Q D K b0 post) args s cells slots (fun q => b0 ≤ q)) (F0 m pc ls [.int v]) := by
  obtain ⟨hx, hb, hml, hown, hts, hr, hlocks, hK⟩ := hB
  exact W.zret hx hb hr (by rcases hn with rfl | rfl <;> rfl) (fun t ht hW => ⟨⟨_, N, h, rfl, hq, by rw [ht]; exact hG.1⟩, hG.2.F ht⟩) hG.2.2.2 hdg
theorem zr_vret {post : Option Value → Nat → zh_H → Prop} (hB : zc_B p s m args meth c cc mL own none D K) (hG : zh_G D K b0 N h s.heap H locs) (hq : post none N h) (hdg : decode cc pc = .ok (.return_, 1)) : W p l e R s m args below meth c H locs cells slots (MQ below (zc_Q D K b0 post) args s cells slots (fun q => b0 ≤ q)) (F0 m pc ls []) := by
  obtain ⟨hx, hb, hml, hown, hts, hr, hlocks, hK⟩ := hB
  exact W.vret hx hb hr (fun t ht hW => ⟨⟨_, N, h, rfl, hq, by rw [ht]; exact hG.1⟩, hG.2.F ht⟩) hG.2.2.2 hdg
theorem zr_aret {post : Option Value → Nat → zh_H → Prop} {v : Nat} {rt : FieldType} (hB : zc_B p s m args meth c cc mL own (some (.array rt)) D K) (hG : zh_G D K b0 N h s.heap H locs) (hq : post (some (.ref v)) N h) (hdg : decode cc pc = .ok (.areturn, 1)) : W p l e R s m args below meth c H locs cells slots (MQ below (zc_Q D K b0 post) args s cells slots (fun q => b0 ≤ q)) (F0 m pc ls [.ref v]) := by
  obtain ⟨hx, hb, hml, hown, hts, hr, hlocks, hK⟩ := hB
  exact W.aret hx hb hr (Or.inr ⟨_, rfl⟩) (Or.inr ⟨_, rfl⟩) (fun t ht hW => ⟨⟨_, N, h, rfl, hq, by rw [ht]; exact hG.1⟩, hG.2.F ht⟩) hG.2.2.2 hdg
/-! calls -/
theorem zr_back {post : Option Value → Nat → zh_H → Prop} {mc ms : Nat} {av : Array Value} (hr : va_Run p l e R s m args below meth c H locs cells slots mc ms (F0 m pc ls st0) rest (zc_Q D K b0 post av) (fun q => b0 ≤ q)) (hG : zh_G D K b0 N h s.heap H locs)
    (kk : ∀ (r : Option Value) (N1 : Nat) (h1 : zh_H) (H1 : Heap) (locs1 : List Loc), post r N1 h1 → zh_G D K b0 N1 h1 s.heap H1 locs1 → W p l e R s m args below meth c H1 locs1 (cells + mc) (slots + ms) Q (F0 m (pc + 3) ls (r.toList ++ rest))) : W p l e R s m args below meth c H locs cells slots Q (F0 m pc ls st0) := by
  intro T hT X
  obtain ⟨v, st₀, t, T', L, h0, X', hL, e1, e2, ⟨⟨r, N1, h1, hv, hp, hR⟩, hz, hk⟩, st⟩ := hr T hT X
  cases hv
  rw [h0] at hz hk
  obtain ⟨t2, a1, b1⟩ := kk v N1 h1 T'.heap (locs ++ L) hp ⟨by rw [e1]; exact hR, Nat.le_trans hG.2.1 (by rw [e1]; exact hz), fun q g1 g2 => by rw [e1, hk q (Nat.lt_of_lt_of_le g1 hG.2.1) g2]; exact hG.2.2.1 q g1 g2, fun q hq => by
      rcases List.mem_append.mp hq with h | h
      · exact hG.2.2.2 q h
      · exact hL q h⟩ T' rfl X'
  exact ⟨t2, st t2 a1, b1⟩
theorem zr_pre {y : MethodName} {as : List Value} (hB : zc_B p s m args meth c cc mL own ret D K) (hG : zh_G D K b0 N h s.heap H locs) : PreS s H (zc_P D K b0 N h as) as := by
  obtain ⟨hx, hb, hml, hown, hts, hr, hlocks, hK⟩ := hB
  exact ⟨zc_blind, fun U hU hW => ⟨rfl, by rw [hU]; exact hG.1, hK.warm hW⟩⟩
variable {y : MethodName} {b : ByteArray} {mL' n d' mc ms o N1 : Nat} {ret' : Option FieldType} {As : List Value} {v : Option Value} {w : Value}
theorem zr_cb (S : zSB own index y b mL' ret' n) (hB : zc_B p s m args meth c cc mL own ret D K) (hroom : d' + 1 ≤ R.frames ∧ 8 + (mL' + 11) + 36 * d' ≤ R.locals) : CallB R s args own index y b mL' ret' (zc_w y b mL' ret') (zc_rm d' mc ms) mc ms n := by
  obtain ⟨hx, hb, hml, hown, hts, hr, hlocks, hK⟩ := hB
  exact callB_of n hts (zgood S.2.1) rfl rfl rfl (hts _ (zin S.2.2.1 rfl)) (hts _ (zin S.1 rfl)) S.2.2.2 hroom
theorem zr_fix (hB : zc_B p s m args meth c cc mL own ret D K) : CallFix p m c cc mL s args zc_tb own := by
  obtain ⟨hx, hb, hml, hown, hts, hr, hlocks, hK⟩ := hB
  exact ⟨hx, hb, hml, hown, hts⟩
theorem zr_callV0 (S : zSV own index y b mL' ret' n ci) (hB : zc_B p s m args meth c cc mL own ret D K) (hG : zh_G D K b0 N h s.heap H locs) (hC : zc l y b mL' ret' d' mc ms D K b0 N h (.ref o :: As) (zq v N1 h1)) {u : Unit} (ho : isO h o ci = some u) (hn : As.length = n) (hls : ls.size = mL) (hst : st0 = As.reverse ++ .ref o :: rest) (hroom : d' + 1 ≤ R.frames ∧ 8 + (mL' + 11) + 36 * d' ≤ R.locals) (hW : (rest.map fun v => v.category).sum ≤ 8) (hcs : cells + mc ≤ R.cells ∧ slots + ms ≤ R.slots) (hdg : decode cc pc = .ok (.invokevirtual index, 3))
    (kk : ∀ (H1 : Heap) (locs1 : List Loc), zh_G D K b0 N1 h1 s.heap H1 locs1 → W p l e R s m args below meth c H1 locs1 (cells + mc) (slots + ms) Q (F0 m (pc + 3) ls (v.toList ++ rest))) : W p l e R s m args below meth c H locs cells slots Q (F0 m pc ls st0) := by
  obtain ⟨fs, he⟩ := isO_s ho
  obtain ⟨S1, hi, hse, r, hc, hrn⟩ := S
  have hts := hB.2.2.2.2.1
  have hp := zr_pre (y := y) (as := .ref o :: As) hB hG
  refine zr_back (va_runV (C := y.cls) (zr_fix hB) hC ⟨zr_cb S1 hB hroom, hts _ (zin hi rfl), hts _ (zin hse rfl)⟩ ⟨hp.1, ?_, hp.2⟩ rfl hn hls hst (by show 2 * 0 + _ ≤ 8; omega) hdg hcs) hG ?_
  · have h2 := va_recv hB.2.2.2.2.2.2.2.1 (hG.at he) hc (q0 := 0) rfl
    rw [hrn] at h2
    exact h2
  · intro r2 N2 h2 H2 locs2 hq hG2
    obtain ⟨rfl, rfl, rfl⟩ := hq
    exact kk H2 locs2 hG2
theorem zr_callV (S : zSV own index y b mL' ret' n ci) (hB : zc_B p s m args meth c cc mL own ret D K) (hG : zh_G D K b0 N h s.heap H locs) (hC : zc l y b mL' ret' d' mc ms D K b0 N h (.ref o :: As) (zq (some w) N1 h1)) {u : Unit} (ho : isO h o ci = some u) (hn : As.length = n) (hls : ls.size = mL) (hst : st0 = As.reverse ++ .ref o :: rest) (hroom : d' + 1 ≤ R.frames ∧ 8 + (mL' + 11) + 36 * d' ≤ R.locals) (hW : (rest.map fun v => v.category).sum ≤ 8) (hcs : cells + mc ≤ R.cells ∧ slots + ms ≤ R.slots) (hdg : decode cc pc = .ok (.invokevirtual index, 3))
    (kk : ∀ (H1 : Heap) (locs1 : List Loc), zh_G D K b0 N1 h1 s.heap H1 locs1 → W p l e R s m args below meth c H1 locs1 (cells + mc) (slots + ms) Q (F0 m (pc + 3) ls (w :: rest))) : W p l e R s m args below meth c H locs cells slots Q (F0 m pc ls st0) :=
  zr_callV0 S hB hG hC ho hn hls hst hroom hW hcs hdg kk
theorem zr_callVv (S : zSV own index y b mL' ret' n ci) (hB : zc_B p s m args meth c cc mL own ret D K) (hG : zh_G D K b0 N h s.heap H locs) (hC : zc l y b mL' ret' d' mc ms D K b0 N h (.ref o :: As) (zq none N1 h1)) {u : Unit} (ho : isO h o ci = some u) (hn : As.length = n) (hls : ls.size = mL) (hst : st0 = As.reverse ++ .ref o :: rest) (hroom : d' + 1 ≤ R.frames ∧ 8 + (mL' + 11) + 36 * d' ≤ R.locals) (hW : (rest.map fun v => v.category).sum ≤ 8) (hcs : cells + mc ≤ R.cells ∧ slots + ms ≤ R.slots) (hdg : decode cc pc = .ok (.invokevirtual index, 3))
    (kk : ∀ (H1 : Heap) (locs1 : List Loc), zh_G D K b0 N1 h1 s.heap H1 locs1 → W p l e R s m args below meth c H1 locs1 (cells + mc) (slots + ms) Q (F0 m (pc + 3) ls rest)) : W p l e R s m args below meth c H locs cells slots Q (F0 m pc ls st0) :=
  zr_callV0 S hB hG hC ho hn hls hst hroom hW hcs hdg kk
theorem zr_callS (S : zSS own index y b mL' ret' n) (hB : zc_B p s m args meth c cc mL own ret D K) (hG : zh_G D K b0 N h s.heap H locs) (hC : zc l y b mL' ret' d' mc ms D K b0 N h As (zq (some w) N1 h1)) (hn : As.length = n) (hls : ls.size = mL) (hst : st0 = As.reverse ++ rest) (hroom : d' + 1 ≤ R.frames ∧ 8 + (mL' + 11) + 36 * d' ≤ R.locals) (hW : (rest.map fun v => v.category).sum ≤ 8) (hcs : cells + mc ≤ R.cells ∧ slots + ms ≤ R.slots) (hdg : decode cc pc = .ok (.invokestatic index, 3))
    (kk : ∀ (H1 : Heap) (locs1 : List Loc), zh_G D K b0 N1 h1 s.heap H1 locs1 → W p l e R s m args below meth c H1 locs1 (cells + mc) (slots + ms) Q (F0 m (pc + 3) ls (w :: rest))) : W p l e R s m args below meth c H locs cells slots Q (F0 m pc ls st0) := by
  have hts := hB.2.2.2.2.1
  refine zr_back (va_runS (zr_fix hB) hC ⟨zr_cb S.1 hB hroom, hts _ (zin S.2 rfl)⟩ (zr_pre (y := y) hB hG) rfl hn hls hst (by show 2 * 0 + _ ≤ 8; omega) hdg hcs) hG ?_
  intro r2 N2 h2 H2 locs2 hq hG2
  obtain ⟨rfl, rfl, rfl⟩ := hq
  exact kk H2 locs2 hG2
theorem zr_callI (S : zSI own index y b mL' n) (hB : zc_B p s m args meth c cc mL own ret D K) (hG : zh_G D K b0 N h s.heap H locs) (hC : zc l y b mL' none d' mc ms D K b0 N h (.ref o :: As) (zq none N1 h1)) (hn : As.length = n) (hls : ls.size = mL) (hst : st0 = As.reverse ++ .ref o :: rest) (hroom : d' + 1 ≤ R.frames ∧ 8 + (mL' + 11) + 36 * d' ≤ R.locals) (hW : (rest.map fun v => v.category).sum ≤ 8) (hcs : cells + mc ≤ R.cells ∧ slots + ms ≤ R.slots) (hdg : decode cc pc = .ok (.invokespecial index, 3))
    (kk : ∀ (H1 : Heap) (locs1 : List Loc), zh_G D K b0 N1 h1 s.heap H1 locs1 → W p l e R s m args below meth c H1 locs1 (cells + mc) (slots + ms) Q (F0 m (pc + 3) ls rest)) : W p l e R s m args below meth c H locs cells slots Q (F0 m pc ls st0) := by
  have hts := hB.2.2.2.2.1
  refine zr_back (va_runI (zr_fix hB) hC ⟨zr_cb S.1 hB hroom, S.2.2, hts _ (zin S.2.1 rfl)⟩ (zr_pre (y := y) hB hG) rfl hn hls hst (by show 2 * 0 + _ ≤ 8; omega) hdg hcs) hG ?_
  intro r2 N2 h2 H2 locs2 hq hG2
  obtain ⟨rfl, rfl, rfl⟩ := hq
  exact kk H2 locs2 hG2
/-- EditFinder.isByte, called by its nest mate -/
theorem zr_callN {st : Cond.static yX10_isByte ∈ lw_tbl} {hcode : Cond.code yX10_isByte cX10_isByte 1 (some .boolean) ∈ lw_tbl} {hini : Cond.initialized RX10 ∈ lw_tbl} {x : Int32} (hB : zc_B p s m args meth c cc mL RX4 ret D K) (hG : zh_G D K b0 N h s.heap H locs) (hC : zc l yX10_isByte cX10_isByte 1 (some .boolean) d' mc ms D K b0 N h [.int x] (zq (some w) N1 h1)) (hls : ls.size = mL) (hst : st0 = [Value.int x] ++ rest) (hroom : d' + 1 ≤ R.frames ∧ 8 + (1 + 11) + 36 * d' ≤ R.locals) (hW : (rest.map fun v => v.category).sum ≤ 8) (hcs : cells + mc ≤ R.cells ∧ slots + ms ≤ R.slots) (hdg : decode cc pc = .ok (.invokestatic 88, 3))
    (kk : ∀ (H1 : Heap) (locs1 : List Loc), zh_G D K b0 N1 h1 s.heap H1 locs1 → W p l e R s m args below meth c H1 locs1 (cells + mc) (slots + ms) Q (F0 m (pc + 3) ls (w :: rest))) : W p l e R s m args below meth c H locs cells slots Q (F0 m pc ls st0) := by
  have hts := hB.2.2.2.2.1
  have hNw := hB.2.2.2.2.2.2.2.2.1
  refine zr_back (va_runSN (n := 1) (host := RX10) (index := 88) (zr_fix hB) hC ⟨va_cnB 1 hts (zgood hcode) rfl rfl rfl hNw (hts _ (zin hini rfl)) (by decide +kernel) hroom, hts _ (zin st rfl), trivial⟩ (zr_pre (y := yX10_isByte) hB hG) rfl rfl hls hst (by show 2 * 0 + _ ≤ 8; omega) hdg hcs) hG ?_
  intro r2 N2 h2 H2 locs2 hq hG2
  obtain ⟨rfl, rfl, rfl⟩ := hq
  exact kk H2 locs2 hG2
end ZJ
