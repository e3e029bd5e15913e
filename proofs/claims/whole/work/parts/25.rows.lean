theorem u2_u2 {α : Type} {f : Nat → Nat → α} {k j : Nat} {v w : α} : u2 (u2 f k j v) k j w = u2 f k j w := by
  funext a b
  unfold u2
  split <;> rfl
theorem u2_self {α : Type} {f : Nat → Nat → α} {k j : Nat} {v : α} (h : f k j = v) : u2 f k j v = f := by
  funext a b
  unfold u2
  split
  · next hc => rw [hc.1, hc.2, h]
  · rfl
theorem nI_lit {n : Nat} : Int32.ofNat n = nI n := rfl
section RW
variable {x : Nat} {si : Nat → Nat → Int32} {sq : Nat → Nat → Nat} {sl : Nat → Nat → Int64} {A : Nat → Nat → Int32} {B : Nat → Nat → Int64} {g : zh_H}
theorem okP_of {a b m : Nat} (h1 : a ≤ b) (h2 : b ≤ m) (h3 : m < 2 ^ 31) : okP (nI a) (nI b) m := ⟨nI_pos' (by omega), nI_le h1 (by omega), nI_le h2 h3⟩
theorem x_addPart_t {o t n m a b : Nat} (ho : isRow o) (ht : isRow t) (hn : si o 1 = nI n) (hm : si t 1 = nI m) (hab : a ≤ b) (hbm : b ≤ m) (hmt : m ≤ rlen t) (hno : n + (b - a) ≤ rlen o) : b_X0_addPart_0 (xh x si sq sl A B g) (x + o) (x + t) (nI a) (nI b) = some (1, xh x (u2 si o 1 (nI (n + (b - a)))) sq sl (ua A (o + 1) (va_cpy (A (t + 1)) (A (o + 1)) a n (b - a))) B g) := by
  have l1 := rlen_le (o := o)
  have l2 := rlen_le (o := t)
  unfold b_X0_addPart_0
  rw [xr_is ht, Option.bind_some, x_isPart_t ht hm (okP_of hab hbm (by omega)), zbp_some, if_neg (by decide), xr_c ho, Option.bind_some, xr_n ho, Option.bind_some, xr_g ho, Option.bind_some, hn, pk_sub hab, pk_sub (by omega), if_pos (nI_le (by omega) (by omega)), xr_c ht, Option.bind_some, Option.bind_some, Option.bind_some, xr_cp ht ho (by omega) (by omega), Option.bind_some, xr_g ho, Option.bind_some, hn, nI_add, xr_p ho, Option.bind_some]
theorem x_addPart_f {o t n m a b : Nat} (ho : isRow o) (ht : isRow t) (hn : si o 1 = nI n) (hm : si t 1 = nI m) (hab : a ≤ b) (hbm : b ≤ m) (hmt : m ≤ rlen t) (hn2 : n ≤ rlen o) (hno : rlen o < n + (b - a)) : b_X0_addPart_0 (xh x si sq sl A B g) (x + o) (x + t) (nI a) (nI b) = some (0, xh x si sq sl A B g) := by
  have l1 := rlen_le (o := o)
  have l2 := rlen_le (o := t)
  unfold b_X0_addPart_0
  rw [xr_is ht, Option.bind_some, x_isPart_t ht hm (okP_of hab hbm (by omega)), zbp_some, if_neg (by decide), xr_c ho, Option.bind_some, xr_n ho, Option.bind_some, xr_g ho, Option.bind_some, hn, pk_sub hab, pk_sub hn2, if_neg (nI_ge (by omega) (by omega))]
  rfl
theorem x_copyFrom {o t m : Nat} (ho : isRow o) (ht : isRow t) (hot : t ≠ o) (hm : si t 1 = nI m) (hmt : m ≤ rlen t) (hno : m ≤ rlen o) : b_X0_copyFrom_0 (xh x si sq sl A B g) (x + o) (x + t) = some (xh x (u2 si o 1 (nI m)) sq sl (ua A (o + 1) (va_cpy (A (t + 1)) (A (o + 1)) 0 0 m)) B g) := by
  unfold b_X0_copyFrom_0
  have hm2 : u2 si o 1 0 t 1 = nI m := by rw [u2_n (Or.inl hot)]; exact hm
  rw [xr_is ho, Option.bind_some, x_clear ho, Option.bind_some, xr_g ht, Option.bind_some, xr_is ho, Option.bind_some, hm2, show (0 : Int32) = nI 0 from rfl, x_addPart_t ho ht (n := 0) (m := m) (a := 0) (b := m) u2_s hm2 (by omega) (by omega) hmt (by omega), zbp_some, u2_u2, Nat.zero_add, Nat.sub_zero]
theorem x_takeOut {o n a b : Nat} (ho : isRow o) (hn : si o 1 = nI n) (hno : n ≤ rlen o) (hab : a ≤ b) (hb : b ≤ n) : b_X0_takeOut_0 (xh x si sq sl A B g) (x + o) (nI a) (nI b) = some (xh x (u2 si o 1 (nI (n - (b - a)))) sq sl (ua A (o + 1) (va_cpy (A (o + 1)) (A (o + 1)) b a (n - b))) B g) := by
  have l1 := rlen_le (o := o)
  unfold b_X0_takeOut_0
  rw [xr_is ho, Option.bind_some, x_isPart_t ho hn (okP_of hab hb (by omega)), zbp_some, if_neg (by decide), xr_c ho, Option.bind_some, Option.bind_some, xr_g ho, Option.bind_some, hn, pk_sub hb, xr_cp ho ho (by omega) (by omega), Option.bind_some, xr_g ho, Option.bind_some, hn, pk_sub hab, pk_sub (by omega), xr_p ho, Option.bind_some]
  rfl
theorem x_putIn {o t n m a : Nat} (ho : isRow o) (ht : isRow t) (hot : t ≠ o) (hot2 : t + 1 ≠ o + 1) (hn : si o 1 = nI n) (hm : si t 1 = nI m) (hmt : m ≤ rlen t) (hnm : n + m ≤ rlen o) (ha : a ≤ n) : b_X0_putIn_0 (xh x si sq sl A B g) (x + o) (nI a) (x + t) = some (xh x (u2 si o 1 (nI (n + m))) sq sl (ua A (o + 1) (va_cpy (A (t + 1)) (va_cpy (A (o + 1)) (A (o + 1)) a (a + m) (n - a)) 0 a m)) B g) := by
  have l1 := rlen_le (o := o)
  have l2 := rlen_le (o := t)
  unfold b_X0_putIn_0
  rw [if_neg (nI_pos (by omega)), xr_g ho, Option.bind_some, hn, if_neg (nI_nlt ha (by omega)), xr_g ht, Option.bind_some, xr_c ho, Option.bind_some, xr_n ho, Option.bind_some, Option.bind_some, hm, pk_sub (by omega), if_neg (nI_nlt (by omega) (by omega)), Option.bind_some, Option.bind_some, Option.bind_some, Option.bind_some, nI_add, pk_sub ha, xr_cp ho ho (by omega) (by omega), Option.bind_some, xr_c ht, Option.bind_some, xr_c ho, Option.bind_some, xr_g ht, Option.bind_some, hm, show (0 : Int32) = nI 0 from rfl, xr_cp ht ho (by omega) (by omega), Option.bind_some, xr_g ho, Option.bind_some, xr_g ht, Option.bind_some, hn, hm, nI_add, xr_p ho, Option.bind_some, ua_ua, ua_s, ua_n hot2]
  rfl
/-- the history keeps the text (row 3) -/
theorem x_keep {n w c : Nat} (hn : si 3 1 = nI n) (hn2 : n ≤ 1500) (hw : si 7 1 = nI w) (hw2 : w < 5) (hc : si 7 2 = nI c) (hc2 : c ≤ 5) : ∃ w', w' = (w + 1) % 5 ∧ b_X1_keep_0 (xh x si sq sl A B g) (x + 7) (x + 3) = some (xh x (u2 (u2 (u2 si 7 1 (nI w')) (9 + 2 * w') 1 (nI n)) 7 2 (nI (min (c + 1) 5))) sq sl (ua A (10 + 2 * w') (va_cpy (A 4) (A (10 + 2 * w')) 0 0 n)) B g) := by
  have h3 : isRow 3 := by unfold isRow; omega
  have hmin : zmin (nI c + (1 : Int32)) (5 : Int32) = nI (min (c + 1) 5) := by
    rw [nI_1]
    have : c = 0 ∨ c = 1 ∨ c = 2 ∨ c = 3 ∨ c = 4 ∨ c = 5 := by omega
    rcases this with rfl | rfl | rfl | rfl | rfl | rfl <;> decide
  have step : ∀ w', w' < 5 → b_X1_keep_21 (xh x si sq sl A B g) (x + 7) (x + 3) (nI w') (x + 7) = some (xh x (u2 (u2 (u2 si 7 1 (nI w')) (9 + 2 * w') 1 (nI n)) 7 2 (nI (min (c + 1) 5))) sq sl (ua A (10 + 2 * w') (va_cpy (A 4) (A (10 + 2 * w')) 0 0 n)) B g) := by
    intro w' hw'
    have hr := row_h hw'
    have hrl : rlen (9 + 2 * w') = 1500 := by
      have : w' = 0 ∨ w' = 1 ∨ w' = 2 ∨ w' = 3 ∨ w' = 4 := by omega
      rcases this with rfl | rfl | rfl | rfl | rfl <;> rfl
    unfold b_X1_keep_21
    rw [xp_Hi_1, Option.bind_some, xg_Hi_0, Option.bind_some, xg_Hi_1, Option.bind_some, u2_s, xhr hw', Option.bind_some, xr_is hr, Option.bind_some, x_copyFrom hr h3 (by omega) (m := n) (by rw [u2_n (Or.inl (by decide))]; exact hn) hn2 (by rw [hrl]; exact hn2), Option.bind_some, xg_Hi_2, Option.bind_some, u2_n (Or.inl (by omega)), u2_n (Or.inr (by decide)), hc, hmin, xp_Hi_2, Option.bind_some, show 9 + 2 * w' + 1 = 10 + 2 * w' by omega]
  refine ⟨(w + 1) % 5, rfl, ?_⟩
  unfold b_X1_keep_0
  rw [xg_Hi_1, Option.bind_some, hw, nI_1]
  by_cases h5 : w + 1 = 5
  · rw [if_pos (show (5 : Int32) ≤ nI (w + 1) by rw [h5]; exact nI_le (a := 5) (Nat.le_refl _) (by decide)), h5]
    exact step 0 (by decide)
  · rw [if_neg (show ¬ (5 : Int32) ≤ nI (w + 1) from nI_ge (b := 5) (by omega) (by decide)), Option.bind_some, nI_1, show (w + 1) % 5 = w + 1 from Nat.mod_eq_of_lt (by omega)]
    exact step (w + 1) (by omega)
/-- .. and gives the newest one back -/
theorem x_takeBack {w c s : Nat} (hw : si 7 1 = nI w) (hw2 : w < 5) (hc : si 7 2 = nI c) (hc1 : 0 < c) (hc2 : c ≤ 5) (hs : si (9 + 2 * w) 1 = nI s) (hs2 : s ≤ 1500) : ∃ w', w' = (w + 4) % 5 ∧ b_X1_takeBack_0 (xh x si sq sl A B g) (x + 7) (x + 3) = some (1, xh x (u2 (u2 (u2 si 3 1 (nI s)) 7 1 (nI w')) 7 2 (nI (c - 1))) sq sl (ua A 4 (va_cpy (A (10 + 2 * w)) (A 4) 0 0 s)) B g) := by
  have h3 : isRow 3 := by unfold isRow; omega
  have hr := row_h hw2
  have hrl : rlen (9 + 2 * w) = 1500 := by
    have : w = 0 ∨ w = 1 ∨ w = 2 ∨ w = 3 ∨ w = 4 := by omega
    rcases this with rfl | rfl | rfl | rfl | rfl <;> rfl
  refine ⟨(w + 4) % 5, rfl, ?_⟩
  unfold b_X1_takeBack_0
  rw [xg_Hi_2, Option.bind_some, hc, if_neg (nI_ne0 hc1 (by omega)), xg_Hi_0, Option.bind_some, xg_Hi_1, Option.bind_some, hw, xhr hw2, Option.bind_some, xr_is h3, Option.bind_some, x_copyFrom h3 hr (by omega) hs (by rw [hrl]; exact hs2) hs2, Option.bind_some, xg_Hi_1, Option.bind_some, u2_n (Or.inl (by decide)), hw, show 9 + 2 * w + 1 = 10 + 2 * w by omega]
  have tail : ∀ w', b_X1_takeBack_40 (xh x (u2 si 3 1 (nI s)) sq sl (ua A 4 (va_cpy (A (10 + 2 * w)) (A 4) 0 0 s)) B g) (x + 7) (nI w') (x + 7) = some (1, xh x (u2 (u2 (u2 si 3 1 (nI s)) 7 1 (nI w')) 7 2 (nI (c - 1))) sq sl (ua A 4 (va_cpy (A (10 + 2 * w)) (A 4) 0 0 s)) B g) := by
    intro w'
    unfold b_X1_takeBack_40
    rw [xp_Hi_1, Option.bind_some, xg_Hi_2, Option.bind_some, u2_n (Or.inr (by decide)), u2_n (Or.inl (by decide)), hc, nI_p hc1, xp_Hi_2, Option.bind_some]
  by_cases h0 : w = 0
  · subst h0
    rw [if_pos (show nI 0 ≤ (0 : Int32) from by decide)]
    exact tail 4
  · rw [if_neg (nI_nle (by omega) (by omega)), Option.bind_some, nI_p (by omega), show (w + 4) % 5 = w - 1 by omega]
    exact tail (w - 1)
theorem x_takeBack_0 (hc : si 7 2 = nI 0) : b_X1_takeBack_0 (xh x si sq sl A B g) (x + 7) (x + 3) = some (0, xh x si sq sl A B g) := by
  unfold b_X1_takeBack_0
  rw [xg_Hi_2, Option.bind_some, hc, if_pos (show nI 0 = (0 : Int32) from rfl)]
end RW
