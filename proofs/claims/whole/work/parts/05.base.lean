/-! THE HEAP AS A FUNCTION: h a = some cell for the cells from b0 on that we speak of; N is the heap's size. An array's class stands there as a number t, K t is the class -/
abbrev zh_H : Type := Nat → Option va_E
def zh_up (h : zh_H) (a : Nat) (x : va_E) : zh_H := fun q => if q = a then some x else h q
theorem zh_us {h : zh_H} {a : Nat} {x : va_E} : zh_up h a x a = some x := if_pos rfl
theorem zh_un {h : zh_H} {a q : Nat} {x : va_E} (hne : q ≠ a) : zh_up h a x q = h q := if_neg hne
def zh_c (K : Nat → ClassId) (x : va_E) : va_E := match x with
  | .inl a => .inl (K a.1, a.2)
  | .inr o => .inr o
def zh_ok (x : va_E) : Prop := ∀ (n : Nat) (f : Nat → Int32), x = .inl (0, n, .inl f) → ∀ j, fits .byte (.int (f j)) = true
def zh_R (D : va_G) (K : Nat → ClassId) (b0 N : Nat) (h : zh_H) (H : Heap) : Prop := H.size = N ∧ b0 ≤ N ∧ ∀ (a : Nat) (x : va_E), h a = some x → b0 ≤ a ∧ va_at D vwCl (a, zh_c K x) H ∧ zh_ok x
/-- the heap now, and what has become of the heap H0 since -/
def zh_G (D : va_G) (K : Nat → ClassId) (b0 N : Nat) (h : zh_H) (H0 H : Heap) (locs : List Loc) : Prop := zh_R D K b0 N h H ∧ va_S (fun q => b0 ≤ q) H0 H locs
theorem zh_R.lt {D : va_G} {K : Nat → ClassId} {b0 N : Nat} {h : zh_H} {H : Heap} (g : zh_R D K b0 N h H) {a : Nat} {x : va_E} (ha : h a = some x) : a < N := by
  have h1 := (g.2.2 a x ha).2.1.lt
  rw [g.1] at h1
  exact h1
theorem zh_G.at {D : va_G} {K : Nat → ClassId} {b0 N : Nat} {h : zh_H} {H0 H : Heap} {locs : List Loc} (g : zh_G D K b0 N h H0 H locs) {a : Nat} {x : va_E} (ha : h a = some x) : va_P D vwCl [(a, zh_c K x)] H := by
  intro k q hk
  cases k with
  | zero => cases hk; exact (g.1.2.2 a x ha).2.1
  | succ k => simp at hk
theorem zh_G.set {D : va_G} {K : Nat → ClassId} {b0 N : Nat} {h : zh_H} {H0 H H1 : Heap} {locs : List Loc} (g : zh_G D K b0 N h H0 H locs) {a k : Nat} {x y : va_E} (ha : h a = some x) (e : va_at D vwCl (a, zh_c K y) H1) (hok : zh_ok y) (z : H1.size = H.size) (oq : ∀ q : Nat, q ≠ a → H1[q]? = H[q]?) : zh_G D K b0 N (zh_up h a y) H0 H1 (locs ++ [⟨a, k⟩]) := by
  have hb := (g.1.2.2 a x ha).1
  refine ⟨⟨z.trans g.1.1, g.1.2.1, fun q w hq => ?_⟩, g.2.put z oq hb⟩
  by_cases hqa : q = a
  · subst hqa
    rw [zh_us] at hq
    cases hq
    exact ⟨hb, e, hok⟩
  · rw [zh_un hqa] at hq
    exact ⟨(g.1.2.2 q w hq).1, (g.1.2.2 q w hq).2.1.kept (oq q hqa), (g.1.2.2 q w hq).2.2⟩
theorem zh_G.push {D : va_G} {K : Nat → ClassId} {b0 N : Nat} {h : zh_H} {H0 H H1 : Heap} {locs : List Loc} (g : zh_G D K b0 N h H0 H locs) {y : va_E} (e : va_at D vwCl (N, zh_c K y) H1) (hok : zh_ok y) (z : H1.size = N + 1) (oq : ∀ q : Nat, q < N → H1[q]? = H[q]?) : zh_G D K b0 (N + 1) (zh_up h N y) H0 H1 locs := by
  refine ⟨⟨z, Nat.le_succ_of_le g.1.2.1, fun q w hq => ?_⟩, ?_⟩
  · by_cases hqa : q = N
    · subst hqa
      rw [zh_us] at hq
      cases hq
      exact ⟨g.1.2.1, e, hok⟩
    · rw [zh_un hqa] at hq
      exact ⟨(g.1.2.2 q w hq).1, (g.1.2.2 q w hq).2.1.kept (oq q (g.1.lt hq)), (g.1.2.2 q w hq).2.2⟩
  · have hs : H.size = N := g.1.1
    refine ⟨by have := g.2.1; omega, fun q h1 h2 => ?_, g.2.2.2⟩
    rw [oq q (by have := g.2.1; omega)]
    exact g.2.2.1 q h1 h2
theorem zh_ok_o {o : Nat × List Value} : zh_ok (.inr o) := fun _ _ q => by cases q
theorem zh_ok_l {t n : Nat} {f : Nat → Int64} : zh_ok (.inl (t, n, .inr (.inl f))) := fun _ _ q => by cases q
theorem zh_ok_q {t n : Nat} {f : Nat → Option Nat} : zh_ok (.inl (t, n, .inr (.inr (.inr (.inr f))))) := fun _ _ q => by cases q
theorem zh_ok_i {n : Nat} {f : Nat → Int32} : zh_ok (.inl (1, n, .inl f)) := fun _ _ q => by cases q
theorem zh_ok_b {n : Nat} {f : Nat → Int32} (hf : ∀ j, fits .byte (.int (f j)) = true) : zh_ok (.inl (0, n, .inl f)) := fun _ _ q => by cases q; exact hf
/-! what a method does, as functions over that heap: none where the machine itself would throw -/
def gI (h : zh_H) (a ci k : Nat) : Option Int32 := match h a with
  | some (.inr (c, fs)) => if c = ci then (match fs[k]? with | some (.int v) => some v | _ => none) else none
  | _ => none
def gL (h : zh_H) (a ci k : Nat) : Option Int64 := match h a with
  | some (.inr (c, fs)) => if c = ci then (match fs[k]? with | some (.long v) => some v | _ => none) else none
  | _ => none
def gR (h : zh_H) (a ci k : Nat) : Option Nat := match h a with
  | some (.inr (c, fs)) => if c = ci then (match fs[k]? with | some (.ref v) => some v | _ => none) else none
  | _ => none
def pV (h : zh_H) (a ci k : Nat) (v : Value) : Option zh_H := match h a with
  | some (.inr (c, fs)) => if c = ci ∧ k < fs.length then some (zh_up h a (.inr (ci, fs.set k v))) else none
  | _ => none
def pZ (h : zh_H) (a ci k : Nat) (v : Int32) : Option zh_H := if v = 0 ∨ v = 1 then pV h a ci k (.int v) else none
def aI (h : zh_H) (t a : Nat) (i : Int32) : Option Int32 := match h a with
  | some (.inl (c, n, .inl f)) => if c = t ∧ ¬ (i < 0 ∨ n ≤ i.toNatClampNeg) then some (f i.toNatClampNeg) else none
  | _ => none
def aL (h : zh_H) (a : Nat) (i : Int32) : Option Int64 := match h a with
  | some (.inl (c, n, .inr (.inl f))) => if c = 2 ∧ ¬ (i < 0 ∨ n ≤ i.toNatClampNeg) then some (f i.toNatClampNeg) else none
  | _ => none
def aR (h : zh_H) (t a : Nat) (i : Int32) : Option Nat := match h a with
  | some (.inl (c, n, .inr (.inr (.inr (.inr f))))) => if c = t ∧ ¬ (i < 0 ∨ n ≤ i.toNatClampNeg) then f i.toNatClampNeg else none
  | _ => none
def aN (h : zh_H) (t a : Nat) : Option Int32 := match h a with
  | some (.inl (c, n, _)) => if c = t then some (nI n) else none
  | _ => none
def sI (h : zh_H) (a : Nat) (i x : Int32) : Option zh_H := match h a with
  | some (.inl (c, n, .inl f)) => if c = 1 ∧ ¬ (i < 0 ∨ n ≤ i.toNatClampNeg) then some (zh_up h a (.inl (1, n, .inl (upd f i.toNatClampNeg x)))) else none
  | _ => none
def sB (h : zh_H) (a : Nat) (i x : Int32) : Option zh_H := match h a with
  | some (.inl (c, n, .inl f)) => if c = 0 ∧ ¬ (i < 0 ∨ n ≤ i.toNatClampNeg) then some (zh_up h a (.inl (0, n, .inl (upd f i.toNatClampNeg x.toInt8.toInt32)))) else none
  | _ => none
def sL (h : zh_H) (a : Nat) (i : Int32) (x : Int64) : Option zh_H := match h a with
  | some (.inl (c, n, .inr (.inl f))) => if c = 2 ∧ ¬ (i < 0 ∨ n ≤ i.toNatClampNeg) then some (zh_up h a (.inl (2, n, .inr (.inl (vp_updL f i.toNatClampNeg x))))) else none
  | _ => none
def sR (h : zh_H) (t ci a : Nat) (i : Int32) (v : Nat) : Option zh_H := match h a, h v with
  | some (.inl (c, n, .inr (.inr (.inr (.inr f))))), some (.inr (cj, _)) => if c = t ∧ cj = ci ∧ ¬ (i < 0 ∨ n ≤ i.toNatClampNeg) then some (zh_up h a (.inl (t, n, .inr (.inr (.inr (.inr (va_up f i.toNatClampNeg (some v)))))))) else none
  | _, _ => none
def cpB (h : zh_H) (a0 : Nat) (sp : Int32) (a : Nat) (dp n : Int32) : Option zh_H := match h a0, h a with
  | some (.inl (c0, n0, .inl f)), some (.inl (c1, n1, .inl g)) => if (c0 = 0 ∧ c1 = 0) ∧ (¬ sp < 0 ∧ ¬ dp < 0 ∧ ¬ n < 0) ∧ sp.toNatClampNeg + n.toNatClampNeg ≤ n0 ∧ dp.toNatClampNeg + n.toNatClampNeg ≤ n1 then some (zh_up h a (.inl (0, n1, .inl (va_cpy f g sp.toNatClampNeg dp.toNatClampNeg n.toNatClampNeg)))) else none
  | _, _ => none
def isO (h : zh_H) (a ci : Nat) : Option Unit := match h a with
  | some (.inr (c, _)) => if c = ci then some () else none
  | _ => none
/-- x or none: x, where c -/
def zif {α : Type} (c : Prop) [Decidable c] (x : Option α) : Option α := if c then x else none
theorem zb {α β : Type} {x : Option α} {f : α → Option β} {y : β} (h : x.bind f = some y) : ∃ v, x = some v ∧ f v = some y := by
  cases x with
  | none => cases h
  | some v => exact ⟨v, rfl, h⟩
theorem zif_s {α : Type} {c : Prop} [Decidable c] {x : Option α} {y : α} (h : zif c x = some y) : c ∧ x = some y := by
  unfold zif at h
  by_cases hc : c
  · rw [if_pos hc] at h; exact ⟨hc, h⟩
  · rw [if_neg hc] at h; cases h
abbrev zmin (x y : Int32) : Int32 := if y < x then y else x
abbrev zmax (x y : Int32) : Int32 := if x < y then y else x
abbrev zabs (x : Int32) : Int32 := if 0 ≤ x then x else 0 - x
theorem gI_s {h : zh_H} {a ci k : Nat} {v : Int32} (g : gI h a ci k = some v) : ∃ fs, h a = some (.inr (ci, fs)) ∧ fs[k]? = some (.int v) := by
  unfold gI at g
  split at g
  · next c fs e =>
    split at g
    · next hc =>
      subst hc
      split at g
      · next w e2 => cases g; exact ⟨fs, e, e2⟩
      · cases g
    · cases g
  · cases g
theorem gL_s {h : zh_H} {a ci k : Nat} {v : Int64} (g : gL h a ci k = some v) : ∃ fs, h a = some (.inr (ci, fs)) ∧ fs[k]? = some (.long v) := by
  unfold gL at g
  split at g
  · next c fs e =>
    split at g
    · next hc =>
      subst hc
      split at g
      · next w e2 => cases g; exact ⟨fs, e, e2⟩
      · cases g
    · cases g
  · cases g
theorem gR_s {h : zh_H} {a ci k : Nat} {v : Nat} (g : gR h a ci k = some v) : ∃ fs, h a = some (.inr (ci, fs)) ∧ fs[k]? = some (.ref v) := by
  unfold gR at g
  split at g
  · next c fs e =>
    split at g
    · next hc =>
      subst hc
      split at g
      · next w e2 => cases g; exact ⟨fs, e, e2⟩
      · cases g
    · cases g
  · cases g
theorem pV_s {h h1 : zh_H} {a ci k : Nat} {v : Value} (g : pV h a ci k v = some h1) : ∃ fs, h a = some (.inr (ci, fs)) ∧ k < fs.length ∧ h1 = zh_up h a (.inr (ci, fs.set k v)) := by
  unfold pV at g
  split at g
  · next c fs e =>
    split at g
    · next hc => cases g; exact ⟨fs, by rw [e, hc.1], hc.2, rfl⟩
    · cases g
  · cases g
theorem pZ_s {h h1 : zh_H} {a ci k : Nat} {v : Int32} (g : pZ h a ci k v = some h1) : (v = 0 ∨ v = 1) ∧ pV h a ci k (.int v) = some h1 := by
  unfold pZ at g
  split at g
  · next hc => exact ⟨hc, g⟩
  · cases g
theorem aI_s {h : zh_H} {t a : Nat} {i v : Int32} (g : aI h t a i = some v) : ∃ n f, h a = some (.inl (t, n, .inl f)) ∧ vp_in i n ∧ v = f i.toNatClampNeg := by
  unfold aI at g
  split at g
  · next c n f e =>
    split at g
    · next hc => cases g; exact ⟨n, f, by rw [e, hc.1], hc.2, rfl⟩
    · cases g
  · cases g
theorem aL_s {h : zh_H} {a : Nat} {i : Int32} {v : Int64} (g : aL h a i = some v) : ∃ n f, h a = some (.inl (2, n, .inr (.inl f))) ∧ vp_in i n ∧ v = f i.toNatClampNeg := by
  unfold aL at g
  split at g
  · next c n f e =>
    split at g
    · next hc => cases g; exact ⟨n, f, by rw [e, hc.1], hc.2, rfl⟩
    · cases g
  · cases g
theorem aR_s {h : zh_H} {t a : Nat} {i : Int32} {v : Nat} (g : aR h t a i = some v) : ∃ n f, h a = some (.inl (t, n, .inr (.inr (.inr (.inr f))))) ∧ vp_in i n ∧ f i.toNatClampNeg = some v := by
  unfold aR at g
  split at g
  · next c n f e =>
    split at g
    · next hc => exact ⟨n, f, by rw [e, hc.1], hc.2, g⟩
    · cases g
  · cases g
theorem aN_s {h : zh_H} {t a : Nat} {v : Int32} (g : aN h t a = some v) : ∃ x : vp_A, h a = some (.inl (t, x)) ∧ v = nI x.1 := by
  unfold aN at g
  split at g
  · next c n f e =>
    split at g
    · next hc => cases g; exact ⟨(n, f), by rw [e, hc], rfl⟩
    · cases g
  · cases g
theorem sI_s {h h1 : zh_H} {a : Nat} {i x : Int32} (g : sI h a i x = some h1) : ∃ n f, h a = some (.inl (1, n, .inl f)) ∧ vp_in i n ∧ h1 = zh_up h a (.inl (1, n, .inl (upd f i.toNatClampNeg x))) := by
  unfold sI at g
  split at g
  · next c n f e =>
    split at g
    · next hc => cases g; exact ⟨n, f, by rw [e, hc.1], hc.2, rfl⟩
    · cases g
  · cases g
theorem sB_s {h h1 : zh_H} {a : Nat} {i x : Int32} (g : sB h a i x = some h1) : ∃ n f, h a = some (.inl (0, n, .inl f)) ∧ vp_in i n ∧ h1 = zh_up h a (.inl (0, n, .inl (upd f i.toNatClampNeg x.toInt8.toInt32))) := by
  unfold sB at g
  split at g
  · next c n f e =>
    split at g
    · next hc => cases g; exact ⟨n, f, by rw [e, hc.1], hc.2, rfl⟩
    · cases g
  · cases g
theorem sL_s {h h1 : zh_H} {a : Nat} {i : Int32} {x : Int64} (g : sL h a i x = some h1) : ∃ n f, h a = some (.inl (2, n, .inr (.inl f))) ∧ vp_in i n ∧ h1 = zh_up h a (.inl (2, n, .inr (.inl (vp_updL f i.toNatClampNeg x)))) := by
  unfold sL at g
  split at g
  · next c n f e =>
    split at g
    · next hc => cases g; exact ⟨n, f, by rw [e, hc.1], hc.2, rfl⟩
    · cases g
  · cases g
theorem sR_s {h h1 : zh_H} {t ci a : Nat} {i : Int32} {v : Nat} (g : sR h t ci a i v = some h1) : ∃ n f vs, h a = some (.inl (t, n, .inr (.inr (.inr (.inr f))))) ∧ h v = some (.inr (ci, vs)) ∧ vp_in i n ∧ h1 = zh_up h a (.inl (t, n, .inr (.inr (.inr (.inr (va_up f i.toNatClampNeg (some v))))))) := by
  unfold sR at g
  split at g
  · next c n f cj vs e1 e2 =>
    split at g
    · next hc => cases g; exact ⟨n, f, vs, by rw [e1, hc.1], by rw [e2, hc.2.1], hc.2.2, rfl⟩
    · cases g
  · cases g
theorem cpB_s {h h1 : zh_H} {a0 a : Nat} {sp dp n : Int32} (g : cpB h a0 sp a dp n = some h1) : ∃ n0 n1 f k, h a0 = some (.inl (0, n0, .inl f)) ∧ h a = some (.inl (0, n1, .inl k)) ∧ (¬ sp < 0 ∧ ¬ dp < 0 ∧ ¬ n < 0) ∧ sp.toNatClampNeg + n.toNatClampNeg ≤ n0 ∧ dp.toNatClampNeg + n.toNatClampNeg ≤ n1 ∧ h1 = zh_up h a (.inl (0, n1, .inl (va_cpy f k sp.toNatClampNeg dp.toNatClampNeg n.toNatClampNeg))) := by
  unfold cpB at g
  split at g
  · next c0 n0 f c1 n1 k e1 e2 =>
    split at g
    · next hc => cases g; exact ⟨n0, n1, f, k, by rw [e1, hc.1.1], by rw [e2, hc.1.2], hc.2.1, hc.2.2.1, hc.2.2.2, rfl⟩
    · cases g
  · cases g
theorem isO_s {h : zh_H} {a ci : Nat} {u : Unit} (g : isO h a ci = some u) : ∃ fs, h a = some (.inr (ci, fs)) := by
  unfold isO at g
  split at g
  · next c fs e =>
    split at g
    · next hc => exact ⟨fs, by rw [e, hc]⟩
    · cases g
  · cases g
/-! CONTRACTS. All methods have the tables' words; d: how deep calls go below -/
def zc_tb : List Cond := lw_tbl.filter goodWord
theorem zin {w : Cond} (h : w ∈ lw_tbl) (hg : goodWord w = true) : w ∈ zc_tb := List.mem_filter.mpr ⟨h, hg⟩
def zt (K : Nat → ClassId) : List (ClassId × FieldType) := [(K 0, .byte), (K 1, .int), (K 2, .long), (K 3, .object "EditFinder$ByteRow"), (K 4, .object "EditFinder$SetRow")]
abbrev zNest : Cond := .methodLinkNest RX4 88 yX10_isByte RX10
def zK (D : va_G) (K : Nat → ClassId) (U : State) : Prop := va_K D vwCl (zt K) U ∧ va_Nw zNest U ∧ va_AO "EditFinder$ByteRow" U ∧ va_AO "EditFinder$SetRow" U
theorem zK.warm {D : va_G} {K : Nat → ClassId} {s U : State} (hW : s.WarmedH U.vm) (h : zK D K s) : zK D K U := ⟨va_K.moved hW.alike h.1, va_Nw.warmM hW h.2.1, va_AO.moved hW.alike h.2.2.1, va_AO.moved hW.alike h.2.2.2⟩
def zc_w (y : MethodName) (b : ByteArray) (mL : Nat) (ret : Option FieldType) : List Cond := Cond.code y b mL ret :: zc_tb
def zc_rm (d mc ms : Nat) : Room := { frames := d, cells := mc, slots := ms, locals := 36 * d }
def zc_P (D : va_G) (K : Nat → ClassId) (b0 N : Nat) (h : zh_H) (as : List Value) : Array Value → State → Prop := fun v U => v = as.toArray ∧ zh_R D K b0 N h U.heap ∧ zK D K U
def zq (v : Option Value) (N1 : Nat) (h1 : zh_H) : Option Value → Nat → zh_H → Prop := fun r N h => r = v ∧ N = N1 ∧ h = h1
def zc_Q (D : va_G) (K : Nat → ClassId) (b0 : Nat) (post : Option Value → Nat → zh_H → Prop) : Array Value → State → Outcome → State → Prop := fun _ st oc t => (∃ (r : Option Value) (N : Nat) (h : zh_H), oc = .returned r ∧ post r N h ∧ zh_R D K b0 N h t.heap) ∧ va_F (fun q => b0 ≤ q) st t
def zc (l : Launch) (y : MethodName) (b : ByteArray) (mL : Nat) (ret : Option FieldType) (d mc ms : Nat) (D : va_G) (K : Nat → ClassId) (b0 N : Nat) (h : zh_H) (as : List Value) (post : Option Value → Nat → zh_H → Prop) : Prop :=
  Met l y (zc_w y b mL ret) (zc_rm d mc ms) (zc_P D K b0 N h as) (zc_Q D K b0 post) mc ms (fun q => b0 ≤ q)
theorem zc_blind {D : va_G} {K : Nat → ClassId} {b0 N : Nat} {h : zh_H} {as : List Value} : FrameBlind (zc_P D K b0 N h as) := by
  intro a U g mk q
  obtain ⟨q1, q2, q3⟩ := q
  exact ⟨q1, q2, va_K.moved (u := U) (U := U.calling g mk a) (Vm.Alike.refl U.vm) q3.1, va_Nw.same (u := U) (U := U.calling g mk a) rfl rfl q3.2.1, va_AO.moved (u := U) (U := U.calling g mk a) (Vm.Alike.refl U.vm) q3.2.2.1, va_AO.moved (u := U) (U := U.calling g mk a) (Vm.Alike.refl U.vm) q3.2.2.2⟩
/-- what stands fast inside a method's body -/
def zc_B (p : Program) (s : State) (m : MethodId) (args : Array Value) (meth : Method) (c : Code) (cc : ByteArray) (mL : Nat) (own : String) (ret : Option FieldType) (D : va_G) (K : Nat → ClassId) : Prop :=
  p.tables.exec = Jvm.exec ∧ c.code = cc ∧ c.maxLocals = mL ∧ s.vm.findClass own = some m.cls ∧ (∀ w ∈ zc_tb, w.before args s = true) ∧ meth.sig.returnType = ret ∧ meth.locks = false ∧ zK D K s
theorem zc.of {l : Launch} {y : MethodName} {b : ByteArray} {mL : Nat} {ret : Option FieldType} {d mc ms : Nat} {D : va_G} {K : Nat → ClassId} {b0 N : Nat} {h : zh_H} {as : List Value} {post : Option Value → Nat → zh_H → Prop} (lv : List (Nat × Value)) (hy : plainName y.cls = true) (hlv : lv_args 0 as = lv) (hlen : (lg_sl as).length ≤ mL)
    (body : ∀ (p : Program) (e : Env) (s : State) (m : MethodId) (args : Array Value) (below : List Frame) (meth : Method) (c : Code), zc_B p s m args meth c b mL y.cls ret D K → meth.name = y.name → zh_G D K b0 N h s.heap s.heap [] → ∀ ls : Array Slot, lv_has ls mL lv →
      W p l e (zc_rm d mc ms) s m args below meth c s.heap [] 0 0 (MQ below (zc_Q D K b0 post) args s mc ms (fun q => b0 ≤ q)) (F0 m 0 ls [])) : zc l y b mL ret d mc ms D K b0 N h as post := by
  refine Met.ofW (cc := b) (maxL := mL) (ret := ret) hy rfl ?_
  intro p e s m args below meth c s₁ B hml hv
  obtain ⟨rfl, hR, hK⟩ := hv
  have hts := atoms_spec (ws := zc_w y b mL ret) B.pre
  have hown : s.vm.findClass y.cls = some m.cls := findClass_of_methodNamed B.named
  have hl := lv_entry as (n := mL) hlen
  rw [lg_entry_eq]
  rw [hlv] at hl
  exact body p e s m as.toArray below meth c ⟨B.exec, B.bytes, hml, hown, fun w hw => hts w (List.mem_cons_of_mem _ hw), B.returns, B.notSynchronized, hK⟩ (name_of_methodNamed B.named B.method).1 ⟨hR, va_S.rf⟩ _ hl
/-- a class by its number: its names, the tables' words of its fields -/
def zF (ci : Nat) (C : String) (T : u_T) (Nf : Nat) (ty0 : Nat → FieldType) : Prop := vwCl[ci]? = some (C, T, Nf) ∧ (∀ w ∈ u_ws C T Nf, w ∈ lw_tbl) ∧ (∀ k, k < Nf → parseFieldDescriptor (T k).2.2.1 = some (ty0 k)) ∧ (∀ a, a < Nf → ∀ b, b < Nf → a ≠ b → (T a).2.1 ≠ (T b).2.1)
theorem u_ws_good {C : String} {T : u_T} {Nf : Nat} (h : ∀ w ∈ u_ws C T Nf, w ∈ lw_tbl) : ∀ w ∈ u_ws C T Nf, w ∈ zc_tb := by
  intro w hw
  refine zin (h w hw) ?_
  obtain ⟨k, -, rfl⟩ := List.mem_map.mp hw
  unfold u_lay
  split <;> rfl
def zSB (own : String) (idx : Nat) (y : MethodName) (b : ByteArray) (mL : Nat) (ret : Option FieldType) (n : Nat) : Prop := Cond.methodLink own idx y ∈ lw_tbl ∧ Cond.code y b mL ret ∈ lw_tbl ∧ Cond.initialized y.cls ∈ lw_tbl ∧ (y.cls ≠ "java/lang/invoke/MethodHandle" ∧ y.cls ≠ "java/lang/invoke/VarHandle" ∧ (parseMethodDescriptor y.desc).map (fun d => d.parameters.length) = some n)
def zSV (own : String) (idx : Nat) (y : MethodName) (b : ByteArray) (mL : Nat) (ret : Option FieldType) (n ci : Nat) : Prop := zSB own idx y b mL ret n ∧ Cond.instanceMethod y ∈ lw_tbl ∧ Cond.selects y.cls y y ∈ lw_tbl ∧ ∃ r : vw_C, vwCl[ci]? = some r ∧ r.1 = y.cls
def zSS (own : String) (idx : Nat) (y : MethodName) (b : ByteArray) (mL : Nat) (ret : Option FieldType) (n : Nat) : Prop := zSB own idx y b mL ret n ∧ Cond.static y ∈ lw_tbl
def zSI (own : String) (idx : Nat) (y : MethodName) (b : ByteArray) (mL : Nat) (n : Nat) : Prop := zSB own idx y b mL none n ∧ Cond.instanceMethod y ∈ lw_tbl ∧ y.name = "<init>"
theorem zgood {y : MethodName} {b : ByteArray} {mL : Nat} {ret : Option FieldType} (h : Cond.code y b mL ret ∈ lw_tbl) : GoodIn zc_tb (zc_w y b mL ret) := by
  intro w hw
  rcases List.mem_cons.mp hw with rfl | hw
  · exact ⟨zin h rfl, good_of_word rfl⟩
  · exact ⟨hw, good_of_word (List.mem_filter.mp hw).2⟩
section ZH
variable {p : Program} {l : Launch} {e : Env} {R : Room} {s : State} {m : MethodId} {args : Array Value} {below : List Frame} {meth : Method} {c : Code} {H : Heap} {locs : List Loc} {cells slots : Nat} {Q : State → Prop}
variable {cc : ByteArray} {pc : Nat} {ls : Array Slot} {rest : List Value} {D : va_G} {K : Nat → ClassId} {a : Nat} {b0 N : Nat} {h h1 : zh_H} {mL : Nat} {own : String} {ret : Option FieldType}
variable {C : String} {T : u_T} {Nf ci index k t : Nat} {ty0 : Nat → FieldType}
theorem zr_get0 (hB : zc_B p s m args meth c cc mL own ret D K) (hG : zh_G D K b0 N h s.heap H locs) (F : zF ci C T Nf ty0) (hk : k < Nf) (hl : Cond.fieldLink own index (T k).1 (T k).2.1 (T k).2.2.1 ∈ lw_tbl) {fs : List Value} {v : Value} (he : h a = some (.inr (ci, fs))) (hv : fs[k]? = some v) (hdg : decode cc pc = .ok (.getfield index, 3))
    (kk : W p l e R s m args below meth c H locs cells slots Q (F0 m (pc + 3) ls (v :: rest))) : W p l e R s m args below meth c H locs cells slots Q (F0 m pc ls (.ref a :: rest)) := by
  obtain ⟨hx, hb, hml, hown, hts, hr, hlocks, hK, hNw⟩ := hB
  exact va_get hx hb hts (u_ws_good F.2.1) hown hK (hG.at he) 0 rfl F.1 k hk (hts _ (zin hl rfl)) (fun _ q => q) hv hdg kk
theorem zr_getI {v : Int32} (hB : zc_B p s m args meth c cc mL own ret D K) (hG : zh_G D K b0 N h s.heap H locs) (F : zF ci C T Nf ty0) (hk : k < Nf) (hl : Cond.fieldLink own index (T k).1 (T k).2.1 (T k).2.2.1 ∈ lw_tbl) (hg : gI h a ci k = some v) (hdg : decode cc pc = .ok (.getfield index, 3))
    (kk : W p l e R s m args below meth c H locs cells slots Q (F0 m (pc + 3) ls (.int v :: rest))) : W p l e R s m args below meth c H locs cells slots Q (F0 m pc ls (.ref a :: rest)) := by
  obtain ⟨fs, he, hv⟩ := gI_s hg
  exact zr_get0 hB hG F hk hl he hv hdg kk
theorem zr_getL {v : Int64} (hB : zc_B p s m args meth c cc mL own ret D K) (hG : zh_G D K b0 N h s.heap H locs) (F : zF ci C T Nf ty0) (hk : k < Nf) (hl : Cond.fieldLink own index (T k).1 (T k).2.1 (T k).2.2.1 ∈ lw_tbl) (hg : gL h a ci k = some v) (hdg : decode cc pc = .ok (.getfield index, 3))
    (kk : W p l e R s m args below meth c H locs cells slots Q (F0 m (pc + 3) ls (.long v :: rest))) : W p l e R s m args below meth c H locs cells slots Q (F0 m pc ls (.ref a :: rest)) := by
  obtain ⟨fs, he, hv⟩ := gL_s hg
  exact zr_get0 hB hG F hk hl he hv hdg kk
theorem zr_getR {v : Nat} (hB : zc_B p s m args meth c cc mL own ret D K) (hG : zh_G D K b0 N h s.heap H locs) (F : zF ci C T Nf ty0) (hk : k < Nf) (hl : Cond.fieldLink own index (T k).1 (T k).2.1 (T k).2.2.1 ∈ lw_tbl) (hg : gR h a ci k = some v) (hdg : decode cc pc = .ok (.getfield index, 3))
    (kk : W p l e R s m args below meth c H locs cells slots Q (F0 m (pc + 3) ls (.ref v :: rest))) : W p l e R s m args below meth c H locs cells slots Q (F0 m pc ls (.ref a :: rest)) := by
  obtain ⟨fs, he, hv⟩ := gR_s hg
  exact zr_get0 hB hG F hk hl he hv hdg kk
theorem zr_put {v : Value} (hB : zc_B p s m args meth c cc mL own ret D K) (hG : zh_G D K b0 N h s.heap H locs) (F : zF ci C T Nf ty0) (hk : k < Nf) (hl : Cond.fieldLink own index (T k).1 (T k).2.1 (T k).2.2.1 ∈ lw_tbl) (hfin : (T k).2.2.2 = false) (hn : narrow (ty0 k) v = v) (hfit : fits (ty0 k) v = true) (hg : pV h a ci k v = some h1) (hdg : decode cc pc = .ok (.putfield index, 3))
    (kk : ∀ (H1 : Heap) (locs1 : List Loc), zh_G D K b0 N h1 s.heap H1 locs1 → W p l e R s m args below meth c H1 locs1 cells slots Q (F0 m (pc + 3) ls rest)) : W p l e R s m args below meth c H locs cells slots Q (F0 m pc ls (v :: .ref a :: rest)) := by
  obtain ⟨fs, he, hlen, rfl⟩ := pV_s hg
  obtain ⟨hx, hb, hml, hown, hts, hr, hlocks, hK, hNw⟩ := hB
  obtain ⟨hc, hin0, hty, hnm⟩ := F
  have hin := u_ws_good hin0
  have hap := va_apart (own := own) hts hin ty0 hty hnm hK hc
  obtain ⟨r, h1, cell, q1, q2, q3, q4⟩ := (hG.1.2.2 a _ he).2.1
  have hr : r = (C, T, Nf) := Option.some.inj (h1.symm.trans hc)
  subst hr
  obtain ⟨hS, hfc, kC, hkC, hkind⟩ := hK.1 ci _ hc
  obtain ⟨cf, kf, fi, f, hi, hsl⟩ := hS k hk
  have hlay := hts _ (hin _ (u_in_lay hk))
  unfold u_lay at hlay
  rw [if_neg (by rw [hfin]; decide)] at hlay
  have hst := (u_facts hfc hkC (u_lays hts hin hk) hi).1
  have h6 := u_store hfc hkC hkind hlay hi (hty k hk) hn hfit
  refine W.putK hx hb (f := f) ⟨hown, hts _ (zin hl rfl), ⟨_, _, _, hi⟩, hst⟩ (by rw [q2]; exact h6) q1 q3 (by rw [hsl]; exact k2_hasslot (q4 k hk)) rfl rfl hdg fun H' e1 e2 e3 => ?_
  rw [hsl] at e1 ⊢
  exact kk H' _ (hG.set he ⟨_, hc, t_OB.to (V := updV (vp_V fs) k v) ⟨_, e1, q2, q3, t_set q4 hap hk v⟩ (fun j _ => vp_updV_set hlen v j)⟩ zh_ok_o e2 e3)
theorem zr_putZ {v : Int32} (hB : zc_B p s m args meth c cc mL own ret D K) (hG : zh_G D K b0 N h s.heap H locs) (F : zF ci C T Nf ty0) (hk : k < Nf) (hl : Cond.fieldLink own index (T k).1 (T k).2.1 (T k).2.2.1 ∈ lw_tbl) (hfin : (T k).2.2.2 = false) (hz : ty0 k = .boolean) (hg : pZ h a ci k v = some h1) (hdg : decode cc pc = .ok (.putfield index, 3))
    (kk : ∀ (H1 : Heap) (locs1 : List Loc), zh_G D K b0 N h1 s.heap H1 locs1 → W p l e R s m args below meth c H1 locs1 cells slots Q (F0 m (pc + 3) ls rest)) : W p l e R s m args below meth c H locs cells slots Q (F0 m pc ls (.int v :: .ref a :: rest)) := by
  obtain ⟨hv, hg⟩ := pZ_s hg
  refine zr_put hB hG F hk hl hfin ?_ ?_ hg hdg kk
  · rw [hz]
    rcases hv with rfl | rfl <;> rfl
  · rw [hz]
    rcases hv with rfl | rfl <;> rfl
theorem zr_putF {v : Value} (hB : zc_B p s m args meth c cc mL own ret D K) (hG : zh_G D K b0 N h s.heap H locs) (F : zF ci C T Nf ty0) (hk : k < Nf) (hl : Cond.fieldLink own index (T k).1 (T k).2.1 (T k).2.2.1 ∈ lw_tbl) (hfin : (T k).2.2.2 = true) (hin2 : meth.name = "<init>") (hdecl : (T k).1 = own) (hn : narrow (ty0 k) v = v) (hfit : fits (ty0 k) v = true) (hg : pV h a ci k v = some h1) (hdg : decode cc pc = .ok (.putfield index, 3))
    (kk : ∀ (H1 : Heap) (locs1 : List Loc), zh_G D K b0 N h1 s.heap H1 locs1 → W p l e R s m args below meth c H1 locs1 cells slots Q (F0 m (pc + 3) ls rest)) : W p l e R s m args below meth c H locs cells slots Q (F0 m pc ls (v :: .ref a :: rest)) := by
  obtain ⟨fs, he, hlen, rfl⟩ := pV_s hg
  obtain ⟨hx, hb, hml, hown, hts, hr, hlocks, hK, hNw⟩ := hB
  obtain ⟨hc, hin0, hty, hnm⟩ := F
  have hin := u_ws_good hin0
  have hap := va_apart (own := own) hts hin ty0 hty hnm hK hc
  obtain ⟨r, h1, cell, q1, q2, q3, q4⟩ := (hG.1.2.2 a _ he).2.1
  have hr : r = (C, T, Nf) := Option.some.inj (h1.symm.trans hc)
  subst hr
  obtain ⟨hS, hfc, kC, hkC, hkind⟩ := hK.1 ci _ hc
  obtain ⟨cf, kf, fi, f, hi, hsl⟩ := hS k hk
  have hlay := hts _ (hin _ (u_in_lay hk))
  unfold u_lay at hlay
  rw [if_pos hfin] at hlay
  have hst := (u_facts hfc hkC (u_lays hts hin hk) hi).1
  have hcf : m.cls = cf := by
    obtain ⟨_, _, c', _, _, _, -, -, hf', -, -, -, hown2, -⟩ := Cond.laysFinal_spec hlay
    have e1 : c' = cf := by have := hi.symm.trans hf'; simp at this; exact this.1.symm
    rw [hdecl] at hown2
    rw [← e1]; exact Option.some.inj (hown.symm.trans hown2)
  have h6 := u_fits hfc hkC hkind (Or.inr hlay) hi (hty k hk) hn hfit
  refine W.putFinK hx hb hown (hts _ (zin hl rfl)) hi hst hcf hin2 (by rw [q2]; exact h6) q1 q3 (by rw [hsl]; exact k2_hasslot (q4 k hk)) rfl rfl hdg fun H' e1 e2 e3 => ?_
  rw [hsl] at e1 ⊢
  exact kk H' _ (hG.set he ⟨_, hc, t_OB.to (V := updV (vp_V fs) k v) ⟨_, e1, q2, q3, t_set q4 hap hk v⟩ (fun j _ => vp_updV_set hlen v j)⟩ zh_ok_o e2 e3)
end ZH
