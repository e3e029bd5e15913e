/-! THE READER: a byte of an item -/
def tX (si : Nat → Nat → Int32) (A : Nat → Nat → Int32) (n : Nat) (T : Nat → Nat) : Prop := si 1 1 = nI n ∧ n ≤ 400 ∧ ∀ j, j < n → A 2 j = nI (T j) ∧ T j < 127
def tM (mi : Nat → Int32) (C : Nat → Nat → Int32) (n : Nat) (T : Nat → Nat) : Prop := mi 1 = nI n ∧ n ≤ 400 ∧ ∀ j, j < n → C 1 j = nI (T j) ∧ T j < 127
/-- where the byte stands that is taken at a -/
def tk (T : Nat → Nat) (n a : Nat) : Nat := if a < n ∧ T a = 92 then a + 1 else a
theorem tk_ge {T : Nat → Nat} {n a : Nat} : a ≤ tk T n a ∧ tk T n a ≤ a + 1 := by unfold tk; split <;> omega
/-- what the class's row answers at a place -/
def gt (T : Nat → Nat) (n a : Nat) : Int32 := if a < n then nI (T a) else -1
theorem gt_eq {T : Nat → Nat} {n a c : Nat} (hT : ∀ j, j < n → T j < 127) (hc : c < 127) : gt T n a = nI c ↔ a < n ∧ T a = c := by
  unfold gt
  by_cases h : a < n
  · rw [if_pos h, nI_eq (by have := hT a h; omega) (by omega)]
    exact ⟨fun q => ⟨h, q⟩, fun q => q.2⟩
  · rw [if_neg h]
    constructor
    · intro q
      exfalso
      have h1 : nI c < 0 := by rw [← q]; decide
      exact absurd h1 (nI_pos (by omega))
    · intro q; exact absurd q.1 h
theorem gt_m1 {T : Nat → Nat} {n a : Nat} (hT : ∀ j, j < n → T j < 127) : gt T n a = -1 ↔ ¬ a < n := by
  unfold gt
  by_cases h : a < n
  · rw [if_pos h]
    constructor
    · intro q
      exfalso
      have h1 : nI (T a) < 0 := by rw [q]; decide
      exact absurd h1 (nI_pos (by have := hT a h; omega))
    · intro q; exact absurd h q
  · rw [if_neg h]; exact ⟨fun _ => h, fun _ => rfl⟩
/-- only the reader's numbers have changed -/
def uR (si si' : Nat → Nat → Int32) : Prop := ∀ k j, (k ≠ 47 ∨ (j ≠ 1 ∧ j ≠ 5 ∧ j ≠ 6)) → si' k j = si k j
def uN (mi mi' : Nat → Int32) : Prop := ∀ k, k ≠ 11 → k ≠ 12 → k ≠ 13 → mi' k = mi k
theorem uR.rf {si : Nat → Nat → Int32} : uR si si := fun _ _ _ => rfl
theorem uN.rf {mi : Nat → Int32} : uN mi mi := fun _ _ _ _ => rfl
theorem uR.tr {a b c : Nat → Nat → Int32} (h1 : uR a b) (h2 : uR b c) : uR a c := fun k j h => (h2 k j h).trans (h1 k j h)
theorem uN.tr {a b c : Nat → Int32} (h1 : uN a b) (h2 : uN b c) : uN a c := fun k h3 h4 h5 => (h2 k h3 h4 h5).trans (h1 k h3 h4 h5)
theorem uR.u {si : Nat → Nat → Int32} {j : Nat} {v : Int32} (h : j = 1 ∨ j = 5 ∨ j = 6) : uR si (u2 si 47 j v) := fun k i hk => u2_n (by omega)
theorem uN.u {mi : Nat → Int32} {j : Nat} {v : Int32} (h : j = 11 ∨ j = 12 ∨ j = 13) : uN mi (upd mi j v) := fun k h1 h2 h3 => pk_un (by omega)
theorem tX.mv {si si' : Nat → Nat → Int32} {A : Nat → Nat → Int32} {n : Nat} {T : Nat → Nat} (h : tX si A n T) (u : uR si si') : tX si' A n T := ⟨by rw [u 1 1 (Or.inl (by decide))]; exact h.1, h.2⟩
theorem tM.mv {mi mi' : Nat → Int32} {C : Nat → Nat → Int32} {n : Nat} {T : Nat → Nat} (h : tM mi C n T) (u : uN mi mi') : tM mi' C n T := ⟨by rw [u 1 (by decide) (by decide) (by decide)]; exact h.1, h.2⟩
section TK
variable {x : Nat} {si : Nat → Nat → Int32} {sq : Nat → Nat → Nat} {sl : Nat → Nat → Int64} {A : Nat → Nat → Int32} {B : Nat → Nat → Int64} {g g2 : zh_H}
variable {y : Nat} {mi : Nat → Int32} {ml : Nat → Int64} {C : Nat → Nat → Int32} {E : Nat → Nat → Int64} {n : Nat} {T : Nat → Nat}
theorem x_rget {a : Nat} (hq : sq 47 0 = 1) (h : tX si A n T) (ha : a < 2 ^ 31) : b_X0_get_0 (xh x si sq sl A B g) (x + sq 47 0) (nI a) = some (gt T n a, xh x si sq sl A B g) := by
  obtain ⟨h1, h2, h3⟩ := h
  rw [hq]
  unfold gt
  by_cases hn : a < n
  · rw [if_pos hn, x_get r31.2 h1 hn (show n ≤ 400 from h2), (h3 a hn).1]
  · rw [if_neg hn, x_get_f r31.2 h1 (Or.inr (nI_le (by omega) ha))]
theorem x_ris (hq : sq 47 0 = 1) : isO (xh x si sq sl A B g) (x + sq 47 0) 0 = some () := by rw [hq]; exact xr_is r31.2
theorem x_rsz (hq : sq 47 0 = 1) (h : tX si A n T) : gI (xh x si sq sl A B g) (x + sq 47 0) 0 1 = some (nI n) := by rw [hq, xr_g r31.2, h.1]
theorem x_fail {k w : Int32} (h0 : si 47 5 = 0) : b_X4_fail_0 (xh x si sq sl A B g) (x + 47) k w = some (xh x (u2 (u2 si 47 5 k) 47 6 w) sq sl A B g) := by
  unfold b_X4_fail_0
  rw [xg_Re_5, Option.bind_some, h0, if_pos rfl, xp_Re_5, Option.bind_some, xp_Re_6, Option.bind_some]
  rfl
theorem x_take26_t {a : Nat} (hq : sq 47 0 = 1) (h : tX si A n T) (ha : si 47 1 = nI a) (han : a < n) : b_X4_takeByte_26 (xh x si sq sl A B g) (x + 47) = some (nI (T a), xh x (u2 si 47 1 (nI (a + 1))) sq sl A B g) := by
  have h400 := h.2.1
  unfold b_X4_takeByte_26
  simp only [xg_Re_0, Option.bind_some, xg_Re_1, ha, x_ris hq, x_rget hq h (show a < 2 ^ 31 by omega), zbp_some, if_neg (show ¬ gt T n a = -1 from fun q => (gt_m1 (fun j hj => (h.2.2 j hj).2)).mp q han)]
  unfold b_X4_takeByte_55
  simp only [xg_Re_1, Option.bind_some, ha, nI_1, xp_Re_1]
  rw [show gt T n a = nI (T a) from if_pos han]
theorem x_take26_f {a : Nat} (hq : sq 47 0 = 1) (h : tX si A n T) (ha : si 47 1 = nI a) (han : n ≤ a) (ha2 : a < 1000) (h0 : si 47 5 = 0) : b_X4_takeByte_26 (xh x si sq sl A B g) (x + 47) = some (-1, xh x (u2 (u2 (u2 si 47 5 3) 47 6 (nI n)) 47 1 (nI (a + 1))) sq sl A B g) := by
  unfold b_X4_takeByte_26
  simp only [xg_Re_0, Option.bind_some, xg_Re_1, ha, x_ris hq, x_rget hq h (show a < 2 ^ 31 by omega), zbp_some, if_pos ((gt_m1 (fun j hj => (h.2.2 j hj).2)).mpr (Nat.not_lt.mpr han)), x_rsz hq h, xo_Re, x_fail h0]
  unfold b_X4_takeByte_55
  simp only [xg_Re_1, Option.bind_some, u2_n (show (47 : Nat) ≠ 47 ∨ (1 : Nat) ≠ 6 from Or.inr (by decide)), u2_n (show (47 : Nat) ≠ 47 ∨ (1 : Nat) ≠ 5 from Or.inr (by decide)), ha, nI_1, xp_Re_1]
  rw [show gt T n a = -1 from if_neg (Nat.not_lt.mpr han)]
theorem x_take_t {a : Nat} (hq : sq 47 0 = 1) (h : tX si A n T) (ha : si 47 1 = nI a) (ht : tk T n a < n) : b_X4_takeByte_0 (xh x si sq sl A B g) (x + 47) = some (nI (T (tk T n a)), xh x (u2 si 47 1 (nI (tk T n a + 1))) sq sl A B g) := by
  have h400 := h.2.1
  have hge := tk_ge (T := T) (n := n) (a := a)
  unfold b_X4_takeByte_0
  simp only [xg_Re_0, Option.bind_some, xg_Re_1, ha, x_ris hq, x_rget hq h (show a < 2 ^ 31 by omega), zbp_some]
  by_cases hc : a < n ∧ T a = 92
  · have e : tk T n a = a + 1 := if_pos hc
    rw [if_pos (show gt T n a = (92 : Int32) from (gt_eq (c := 92) (fun j hj => (h.2.2 j hj).2) (by decide)).mpr hc)]
    simp only [xg_Re_1, Option.bind_some, ha, nI_1, xp_Re_1]
    rw [e] at ht ⊢
    rw [x_take26_t hq (h.mv (uR.u (Or.inl rfl))) u2_s ht, u2_u2]
  · have e : tk T n a = a := if_neg hc
    rw [if_neg (show ¬ gt T n a = (92 : Int32) from fun q => hc ((gt_eq (c := 92) (fun j hj => (h.2.2 j hj).2) (by decide)).mp q))]
    rw [e] at ht ⊢
    exact x_take26_t hq h ha ht
theorem x_take_f {a : Nat} (hq : sq 47 0 = 1) (h : tX si A n T) (ha : si 47 1 = nI a) (ht : n ≤ tk T n a) (ha2 : a ≤ n) (h0 : si 47 5 = 0) : ∃ v, n < v ∧ v ≤ n + 2 ∧ b_X4_takeByte_0 (xh x si sq sl A B g) (x + 47) = some (-1, xh x (u2 (u2 (u2 si 47 5 3) 47 6 (nI n)) 47 1 (nI v)) sq sl A B g) := by
  have h400 := h.2.1
  have hge := tk_ge (T := T) (n := n) (a := a)
  unfold b_X4_takeByte_0
  simp only [xg_Re_0, Option.bind_some, xg_Re_1, ha, x_ris hq, x_rget hq h (show a < 2 ^ 31 by omega), zbp_some]
  by_cases hc : a < n ∧ T a = 92
  · have e : tk T n a = a + 1 := if_pos hc
    rw [if_pos (show gt T n a = (92 : Int32) from (gt_eq (c := 92) (fun j hj => (h.2.2 j hj).2) (by decide)).mpr hc)]
    simp only [xg_Re_1, Option.bind_some, ha, nI_1, xp_Re_1]
    rw [x_take26_f hq (h.mv (uR.u (Or.inl rfl))) u2_s (by omega) (by omega) (by rw [u2_n (Or.inr (by decide))]; exact h0)]
    refine ⟨a + 1 + 1, by omega, by omega, ?_⟩
    congr 3
    funext i j
    unfold u2
    repeat' split
    all_goals first | rfl | (exfalso; omega)
  · have e : tk T n a = a := if_neg hc
    rw [if_neg (show ¬ gt T n a = (92 : Int32) from fun q => hc ((gt_eq (c := 92) (fun j hj => (h.2.2 j hj).2) (by decide)).mp q)), x_take26_f hq h ha (by omega) (by omega) h0]
    exact ⟨a + 1, by omega, by omega, rfl⟩
theorem upd_upd {f : Nat → Int32} {k : Nat} {v w : Int32} : upd (upd f k v) k w = upd f k w := by
  funext j
  unfold upd
  split <;> rfl
theorem upd_self {f : Nat → Int32} {k : Nat} {v : Int32} (h : f k = v) : upd f k v = f := by
  funext j
  unfold upd
  split
  · next hc => rw [hc, h]
  · rfl
theorem m_blame {k w : Int32} : b_X11_blame_0 (mh y mi ml C E g) y k w = some (0, mh y (upd (upd mi 12 k) 13 w) ml C E g) := by
  unfold b_X11_blame_0
  rw [mp_fault, Option.bind_some, mp_faultAt, Option.bind_some]
theorem m_item45_t {a d : Nat} {mi : Nat → Int32} (h : tM mi C n T) (hd : a + d < n) : b_X11_itemByte_45 (mh y mi ml C E g) y (nI d) (nI a) y = some (nI (T (a + d)), mh y (upd mi 11 (nI (a + d + 1))) ml C E g) := by
  have h400 := h.2.1
  unfold b_X11_itemByte_45
  have h1 : upd mi 11 (nI (a + d)) 1 = nI n := by rw [pk_un (by decide)]; exact h.1
  have e : nI (a + d + 1) - 1 = nI (a + d) := nI_p (by omega)
  simp only [nI_add, mp_at, Option.bind_some, mg_at, mg_tapeSize, h1, pk_us, if_pos (nI_lt hd (show n < 2 ^ 31 by omega)), nI_1, upd_upd, mr_tape, e, ml_tape (show a + d < 400 by omega), (h.2.2 (a + d) hd).1]
theorem m_item45_f {a d : Nat} {mi : Nat → Int32} (h : tM mi C n T) (hd : n ≤ a + d) (ha : a + d < 1000) : b_X11_itemByte_45 (mh y mi ml C E g) y (nI d) (nI a) y = some (0, mh y (upd (upd (upd mi 11 (nI (a + d))) 12 3) 13 (nI n)) ml C E g) := by
  have h400 := h.2.1
  unfold b_X11_itemByte_45
  have h1 : upd mi 11 (nI (a + d)) 1 = nI n := by rw [pk_un (by decide)]; exact h.1
  simp only [nI_add, mp_at, Option.bind_some, mg_at, mg_tapeSize, h1, pk_us, if_neg (nI_nlt hd (show a + d < 2 ^ 31 by omega)), mis, m_blame, zbp_some]
theorem m_item_eq {a : Nat} (h : tM mi C n T) (ha : mi 11 = nI a) (ha2 : a ≤ n) : b_X11_itemByte_0 (mh y mi ml C E g) y = b_X11_itemByte_45 (mh y mi ml C E g) y (nI (tk T n a - a)) (nI a) y := by
  have h400 := h.2.1
  unfold b_X11_itemByte_0
  simp only [mg_at, mg_tapeSize, Option.bind_some, ha, h.1]
  by_cases han : a < n
  · rw [if_neg (nI_ge han (by omega))]
    simp only [mr_tape, Option.bind_some, ml_tape (show a < 400 by omega), (h.2.2 a han).1]
    by_cases hc : T a = 92
    · have e : tk T n a = a + 1 := if_pos ⟨han, hc⟩
      rw [if_pos (show nI (T a) = (92 : Int32) by rw [hc]; rfl), e, show a + 1 - a = 1 by omega]
      unfold b_X11_itemByte_30
      rw [mg_at, Option.bind_some, ha, if_neg (by decide)]
      rfl
    · have e : tk T n a = a := if_neg (fun q => hc q.2)
      rw [if_neg (show ¬ nI (T a) = (92 : Int32) from fun q => hc ((nI_eq (b := 92) (by have := (h.2.2 a han).2; omega) (by decide)).mp q)), e, Nat.sub_self]
      unfold b_X11_itemByte_29 b_X11_itemByte_30
      rw [mg_at, Option.bind_some, ha, if_pos rfl]
      rfl
  · have e : tk T n a = a := if_neg (fun q => han q.1)
    rw [if_pos (nI_le (by omega) (by omega)), e, Nat.sub_self]
    unfold b_X11_itemByte_29 b_X11_itemByte_30
    rw [mg_at, Option.bind_some, ha, if_pos rfl]
    rfl
theorem m_item_t {a : Nat} (h : tM mi C n T) (ha : mi 11 = nI a) (ha2 : a ≤ n) (ht : tk T n a < n) : b_X11_itemByte_0 (mh y mi ml C E g) y = some (nI (T (tk T n a)), mh y (upd mi 11 (nI (tk T n a + 1))) ml C E g) := by
  have hge := tk_ge (T := T) (n := n) (a := a)
  have e : a + (tk T n a - a) = tk T n a := by omega
  rw [m_item_eq h ha ha2, m_item45_t h (by omega), e]
theorem m_item_f {a : Nat} (h : tM mi C n T) (ha : mi 11 = nI a) (ha2 : a ≤ n) (ht : n ≤ tk T n a) : ∃ mi', b_X11_itemByte_0 (mh y mi ml C E g) y = some (0, mh y mi' ml C E g) ∧ uN mi mi' ∧ mi' 12 = 3 ∧ mi' 13 = nI n := by
  have h400 := h.2.1
  have hge := tk_ge (T := T) (n := n) (a := a)
  rw [m_item_eq h ha ha2, m_item45_f h (by omega) (by omega)]
  exact ⟨_, rfl, ((uN.u (Or.inl rfl)).tr (uN.u (Or.inr (Or.inl rfl)))).tr (uN.u (Or.inr (Or.inr rfl))), by rw [pk_un (by decide), pk_us], pk_us⟩
end TK
