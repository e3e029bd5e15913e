/-! NEW CELLS IN THE HEAP: lh b l h: the cells of l from b on, h elsewhere -/
def lh (b : Nat) (l : List va_E) (h : zh_H) : zh_H := fun q => if q < b then h q else match l[q - b]? with
  | some e => some e
  | none => h q
def lpV (l : List va_E) (i c f : Nat) (v : Value) : Option (List va_E) := match l[i]? with
  | some (.inr (c', fs)) => if c' = c ∧ f < fs.length then some (l.set i (.inr (c, fs.set f v))) else none
  | _ => none
def lgR (l : List va_E) (i c f : Nat) : Option Nat := match l[i]? with
  | some (.inr (c', fs)) => if c' = c then (match fs[f]? with | some (.ref v) => some v | _ => none) else none
  | _ => none
def lsR (l : List va_E) (t ci i : Nat) (ix : Int32) (j v : Nat) : Option (List va_E) := match l[i]?, l[j]? with
  | some (.inl (c, n, .inr (.inr (.inr (.inr f))))), some (.inr (cj, _)) => if c = t ∧ cj = ci ∧ ¬ (ix < 0 ∨ n ≤ ix.toNatClampNeg) then some (l.set i (.inl (t, n, .inr (.inr (.inr (.inr (va_up f ix.toNatClampNeg (some v)))))))) else none
  | _, _ => none
section LH
variable {b : Nat} {l r : List va_E} {h : zh_H}
theorem lh_i {i : Nat} {e : va_E} (hi : l[i]? = some e) : lh b l h (b + i) = some e := by
  unfold lh
  rw [if_neg (by omega), Nat.add_sub_cancel_left, hi]
theorem lh_s {i : Nat} {e : va_E} (hi : i < l.length) : zh_up (lh b l h) (b + i) e = lh b (l.set i e) h := by
  funext q
  unfold zh_up lh
  by_cases hq : q = b + i
  · subst hq
    rw [if_pos rfl, if_neg (by omega), Nat.add_sub_cancel_left, List.getElem?_set_self hi]
  · rw [if_neg hq]
    by_cases h2 : q < b
    · rw [if_pos h2, if_pos h2]
    · rw [if_neg h2, if_neg h2, List.getElem?_set_ne (by omega)]
theorem lh_1 {e : va_E} : zh_up h b e = lh b [e] h := by
  funext q
  unfold zh_up lh
  by_cases hq : q = b
  · subst hq
    rw [if_pos rfl, if_neg (by omega), Nat.sub_self]
    rfl
  · rw [if_neg hq]
    by_cases h2 : q < b
    · rw [if_pos h2]
    · obtain ⟨k, hk⟩ : ∃ k, q - b = k + 1 := ⟨q - b - 1, by omega⟩
      rw [if_neg h2, hk]
      rfl
theorem lh_a {a : Nat} (ha : a = b + l.length) : lh a r (lh b l h) = lh b (l ++ r) h := by
  subst ha
  funext q
  unfold lh
  by_cases h1 : q < b
  · rw [if_pos (by omega), if_pos h1, if_pos h1]
  · by_cases h2 : q < b + l.length
    · rw [if_pos h2, if_neg h1, if_neg h1, List.getElem?_append_left (by omega)]
    · rw [if_neg h2, if_neg h1, if_neg h1, List.getElem?_append_right (by omega), show q - b - l.length = q - (b + l.length) by omega, List.getElem?_eq_none (l := l) (i := q - b) (by omega)]
theorem k_zif {α : Type} {c : Prop} [Decidable c] {x R : Option α} (hc : c) (hx : x = R) : zif c x = R := (zif_t hc).trans hx
theorem k_pV {α : Type} {a i c f : Nat} {v : Value} {l' : List va_E} {K : zh_H → Option α} {R : Option α} (ha : a = b + i) (h1 : lpV l i c f v = some l') (h2 : K (lh b l' h) = R) : (pV (lh b l h) a c f v).bind K = R := by
  subst ha
  rw [← h2]
  unfold lpV at h1
  unfold pV
  cases he : l[i]? with
  | none => rw [he] at h1; cases h1
  | some e =>
    have hlt : i < l.length := by
      obtain ⟨q, -⟩ := List.getElem?_eq_some_iff.mp he
      exact q
    rw [he] at h1
    rw [lh_i he]
    cases e with
    | inl q => cases h1
    | inr q =>
      obtain ⟨c', fs⟩ := q
      have h1' : (if c' = c ∧ f < fs.length then some (l.set i (.inr (c, fs.set f v))) else none) = some l' := h1
      show (if c' = c ∧ f < fs.length then some (zh_up (lh b l h) (b + i) (.inr (c, fs.set f v))) else none).bind K = _
      by_cases hc : c' = c ∧ f < fs.length
      · rw [if_pos hc] at h1' ⊢
        rw [Option.bind_some, lh_s hlt, Option.some.inj h1']
      · rw [if_neg hc] at h1'
        cases h1'
theorem k_gR {α : Type} {a i c f v : Nat} {K : Nat → Option α} {R : Option α} (ha : a = b + i) (h1 : lgR l i c f = some v) (h2 : K v = R) : (gR (lh b l h) a c f).bind K = R := by
  subst ha
  unfold lgR at h1
  unfold gR
  cases he : l[i]? with
  | none => rw [he] at h1; cases h1
  | some e =>
    rw [he] at h1
    rw [lh_i he]
    cases e with
    | inl q => cases h1
    | inr q =>
      obtain ⟨c', fs⟩ := q
      have h1' : (if c' = c then (match fs[f]? with | some (.ref v) => some v | _ => none) else none) = some v := h1
      show (if c' = c then (match fs[f]? with | some (.ref v) => some v | _ => none) else none).bind K = _
      rw [h1', Option.bind_some]
      exact h2
theorem k_sR {α : Type} {a w t ci i j : Nat} {ix : Int32} {l' : List va_E} {K : zh_H → Option α} {R : Option α} (ha : a = b + i) (hw : w = b + j) (h1 : lsR l t ci i ix j w = some l') (h2 : K (lh b l' h) = R) : (sR (lh b l h) t ci a ix w).bind K = R := by
  subst ha
  rw [← h2]
  unfold lsR at h1
  unfold sR
  cases he : l[i]? with
  | none => rw [he] at h1; cases h1
  | some e =>
    have hlt : i < l.length := by
      obtain ⟨q, -⟩ := List.getElem?_eq_some_iff.mp he
      exact q
    cases hj : l[j]? with
    | none => rw [he, hj] at h1; cases e with
      | inr q => cases h1
      | inl q => obtain ⟨c, n, (q | q | q | q | q)⟩ := q <;> cases h1
    | some d =>
      rw [he, hj] at h1
      have hwv : lh b l h w = some d := by rw [hw]; exact lh_i hj
      rw [lh_i he, hwv]
      cases e with
      | inr q => cases h1
      | inl q =>
        obtain ⟨c, n, (q | q | q | q | q)⟩ := q
        · cases h1
        · cases h1
        · cases h1
        · cases h1
        · cases d with
          | inl z => cases h1
          | inr z =>
            obtain ⟨cj, fs⟩ := z
            have h1' : (if c = t ∧ cj = ci ∧ ¬ (ix < 0 ∨ n ≤ ix.toNatClampNeg) then some (l.set i (.inl (t, n, .inr (.inr (.inr (.inr (va_up q ix.toNatClampNeg (some w)))))))) else none) = some l' := h1
            show (if c = t ∧ cj = ci ∧ ¬ (ix < 0 ∨ n ≤ ix.toNatClampNeg) then some (zh_up (lh b l h) (b + i) (.inl (t, n, .inr (.inr (.inr (.inr (va_up q ix.toNatClampNeg (some w)))))))) else none).bind K = _
            by_cases hc : c = t ∧ cj = ci ∧ ¬ (ix < 0 ∨ n ≤ ix.toNatClampNeg)
            · rw [if_pos hc] at h1' ⊢
              rw [Option.bind_some, lh_s hlt, Option.some.inj h1']
            · rw [if_neg hc] at h1'
              cases h1'
theorem k_new {α : Type} {a c f : Nat} {v : Value} {e : va_E} {l' : List va_E} {K : zh_H → Option α} {R : Option α} (ha : a = b + l.length) (h1 : lpV (l ++ [e]) 0 c f v = some l') (h2 : K (lh b l' h) = R) : (pV (zh_up (lh b l h) a e) b c f v).bind K = R := by
  rw [lh_1, lh_a ha]
  exact k_pV (i := 0) rfl h1 h2
theorem k_child {α : Type} {a n : Nat} {F : Option (Nat × zh_H)} {K : Nat → zh_H → Option α} {R : Option α} (h1 : F = some (n, lh a r (lh b l h))) (ha : a = b + l.length) (h2 : K n (lh b (l ++ r) h) = R) : zbp F K = R := by
  rw [h1, zbp_some, lh_a ha]
  exact h2
end LH
