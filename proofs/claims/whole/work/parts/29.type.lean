/-! type: the bytes of a word -/
def xw (w : Int64) (k : Nat) : Int32 := (Int64.toInt32 ((Int64.toUInt64 w >>> ((Int32.toInt64 ((8 : Int32) * nI k)).toUInt64 &&& Int64.toUInt64 63)).toInt64)) &&& (255 : Int32)
def mw (w : Int64) (k : Nat) : Int32 := Int64.toInt32 ((w >>> (Int32.toInt64 ((8 : Int32) * nI k) &&& 63)) &&& (255 : Int64))
theorem bit255 (i : Nat) : (255#64).getLsbD i = decide (i < 8) := by
  rw [show (255#64) = BitVec.ofNat 64 (2 ^ 8 - 1) from rfl, BitVec.getLsbD_ofNat, Nat.testBit_two_pow_sub_one]
  by_cases h : i < 8
  · simp [h]; omega
  · simp [h]
theorem bit255s (i : Nat) : (255#32).getLsbD i = decide (i < 8) := by
  rw [show (255#32) = BitVec.ofNat 32 (2 ^ 8 - 1) from rfl, BitVec.getLsbD_ofNat, Nat.testBit_two_pow_sub_one]
  by_cases h : i < 8
  · simp [h]; omega
  · simp [h]
theorem byte_eq (v : BitVec 64) (s : Nat) (hs : s ≤ 56) : (BitVec.signExtend 32 (v >>> s)) &&& 255#32 = BitVec.signExtend 32 ((v.sshiftRight s) &&& 255#64) := by
  rw [BitVec.signExtend_eq_setWidth_of_le _ (by decide), BitVec.signExtend_eq_setWidth_of_le _ (by decide)]
  apply BitVec.eq_of_getLsbD_eq
  intro i hi
  rw [BitVec.getLsbD_and, bit255s, BitVec.getLsbD_setWidth, BitVec.getLsbD_setWidth, BitVec.getLsbD_and, bit255, BitVec.getLsbD_ushiftRight, BitVec.getLsbD_sshiftRight]
  by_cases h8 : i < 8
  · rw [if_pos (by omega)]
    simp [h8, hi]
    omega
  · simp [h8]
theorem xw_mw (w : Int64) {k : Nat} (hk : k < 8) : xw w k = mw w k := by
  have : k = 0 ∨ k = 1 ∨ k = 2 ∨ k = 3 ∨ k = 4 ∨ k = 5 ∨ k = 6 ∨ k = 7 := by omega
  apply Int32.toBitVec_inj.mp
  rcases this with rfl | rfl | rfl | rfl | rfl | rfl | rfl | rfl
  · exact byte_eq w.toBitVec 0 (by decide)
  · exact byte_eq w.toBitVec 8 (by decide)
  · exact byte_eq w.toBitVec 16 (by decide)
  · exact byte_eq w.toBitVec 24 (by decide)
  · exact byte_eq w.toBitVec 32 (by decide)
  · exact byte_eq w.toBitVec 40 (by decide)
  · exact byte_eq w.toBitVec 48 (by decide)
  · exact byte_eq w.toBitVec 56 (by decide)
theorem okB_nat {v : Int32} (h : okB v) : ∃ b : Nat, b < 127 ∧ v = nI b := by
  rcases h with rfl | ⟨h1, h2⟩
  · exact ⟨10, by decide, rfl⟩
  · obtain ⟨b, hb, rfl⟩ := nI_of2 (x := v) (M := 126) (n := 126) rfl (i_nlt.mpr (Int32.le_trans (by decide) h1)) h2
    exact ⟨b, by omega, rfl⟩
theorem b8_all : ∀ b, b < 127 → (nI b).toInt8.toInt32.toInt8.toInt32 = nI b := by decide +kernel
theorem okB_b8 {v : Int32} (h : okB v) : v.toInt8.toInt32.toInt8.toInt32 = v := by
  obtain ⟨b, hb, rfl⟩ := okB_nat h
  exact b8_all b hb
section TY
variable {x : Nat} {si : Nat → Nat → Int32} {sq : Nat → Nat → Nat} {sl : Nat → Nat → Int64} {A : Nat → Nat → Int32} {B : Nat → Nat → Int64} {g g2 : zh_H}
variable {y : Nat} {mi : Nat → Int32} {ml : Nat → Int64} {C : Nat → Nat → Int32} {E : Nat → Nat → Int64}
theorem x_bow {h : zh_H} {w : Int64} {i : Nat} : b_X10_byteOfWord_0 h w (nI i) = some (xw w i, h) := rfl
theorem x_type65 {w : Int64} {n : Nat} (hn : n ≤ 8) (hok : ∀ k, k < n → okB (xw w k)) : ∀ (fuel i t : Nat) (si : Nat → Nat → Int32) (A : Nat → Nat → Int32), si 1 1 = nI t → i ≤ n → t + (n - i) ≤ 400 → n - i < fuel → ∃ f, b_X10_type_65 fuel (xh x si sq sl A B g) x w (nI n) (nI i) = some (nI (t + (n - i)), xh x (u2 si 1 1 (nI (t + (n - i)))) sq sl (ua A 2 f) B g) ∧ ∀ q, f q = if t ≤ q ∧ q < t + (n - i) then xw w (i + (q - t)) else A 2 q := by
  intro fuel
  induction fuel with
  | zero => intro i t si A _ _ _ h; omega
  | succ k ih =>
    intro i t si A ht hi h4 hk
    unfold b_X10_type_65
    by_cases hin : i < n
    · simp only [if_neg (nI_ge hin (show n < 2 ^ 31 by omega)), xg_EF_0, Option.bind_some, x_bow, zbp_some, xr_is r31.2, x_add r31.2 ht (show t < rlen 1 by show t < 400; omega), okB_b8 (hok i hin), nI_1]
      obtain ⟨f, e1, e2⟩ := ih (i + 1) (t + 1) (u2 si 1 1 (nI (t + 1))) (ua A 2 (upd (A 2) t (xw w i))) u2_s (by omega) (by omega) (by omega)
      refine ⟨f, ?_, fun q => ?_⟩
      · rw [e1, u2_u2, ua_ua, show t + 1 + (n - (i + 1)) = t + (n - i) by omega]
      · rw [e2, ua_s]
        (try simp only [upd]); repeat' split
        all_goals first | rfl | (exfalso; omega) | (congr 1; omega)
    · have : i = n := by omega
      subst this
      simp only [if_pos (nI_le (Nat.le_refl i) (show i < 2 ^ 31 by omega)), xg_EF_0, Option.bind_some, xr_g r31.2, ht]
      refine ⟨A 2, ?_, fun q => by rw [if_neg (by omega)]⟩
      rw [ua_self, show t + (i - i) = t by omega, u2_self ht]
theorem x_type17_t {w : Int64} {n : Nat} (hn : n ≤ 8) : ∀ (fuel i : Nat), i ≤ n → n - i < fuel → (∀ k, i ≤ k → k < n → okB (xw w k)) → ∀ t, si 1 1 = nI t → b_X10_type_17 fuel (xh x si sq sl A B g) x w (nI n) (nI i) = if nI t + nI n ≤ (400 : Int32) then b_X10_type_65 zFuel (xh x si sq sl A B g) x w (nI n) 0 else some (-3, xh x si sq sl A B g) := by
  intro fuel
  induction fuel with
  | zero => intro i _ h; omega
  | succ k ih =>
    intro i hi hk hok t ht
    unfold b_X10_type_17
    by_cases hin : i < n
    · simp only [if_neg (nI_ge hin (show n < 2 ^ 31 by omega)), x_bow, zbp_some, x_isByte_t (hok i (Nat.le_refl _) hin), if_neg (show ¬ (1 : Int32) = 0 by decide), nI_1]
      exact ih (i + 1) (by omega) (by omega) (fun q h1 h2 => hok q (by omega) h2) t ht
    · have : i = n := by omega
      subst this
      simp only [if_pos (nI_le (Nat.le_refl i) (show i < 2 ^ 31 by omega)), xg_EF_0, Option.bind_some, xr_g r31.2, ht]
theorem x_type17_f {w : Int64} {n : Nat} (hn : n ≤ 8) : ∀ (fuel i : Nat), i ≤ n → n - i < fuel → (∃ k, i ≤ k ∧ k < n ∧ ¬ okB (xw w k)) → b_X10_type_17 fuel (xh x si sq sl A B g) x w (nI n) (nI i) = some (-2, xh x si sq sl A B g) := by
  intro fuel
  induction fuel with
  | zero => intro i _ h; omega
  | succ k ih =>
    intro i hi hk ⟨q, h1, h2, h3⟩
    unfold b_X10_type_17
    simp only [if_neg (nI_ge (show i < n by omega) (show n < 2 ^ 31 by omega)), x_bow, zbp_some]
    by_cases hb : okB (xw w i)
    · simp only [x_isByte_t hb, zbp_some, if_neg (show ¬ (1 : Int32) = 0 by decide), nI_1]
      exact ih (i + 1) (by omega) (by omega) ⟨q, by rcases Nat.lt_or_eq_of_le h1 with h | rfl; omega; exact absurd hb h3, h2, h3⟩
    · simp only [x_isByte_f hb, zbp_some, if_true]
theorem m_type67 {w : Int64} {n : Nat} (hn : n ≤ 8) : ∀ (fuel i t : Nat) (mi : Nat → Int32) (C : Nat → Nat → Int32), mi 1 = nI t → i ≤ n → t + (n - i) ≤ 400 → n - i < fuel → ∃ f, b_X11_type_67 fuel (mh y mi ml C E g) y w (nI n) (nI i) = some (nI (t + (n - i)), mh y (upd mi 1 (nI (t + (n - i)))) ml (ua C 1 f) E g) ∧ ∀ q, f q = if t ≤ q ∧ q < t + (n - i) then mw w (i + (q - t)) else C 1 q := by
  intro fuel
  induction fuel with
  | zero => intro i t mi C _ _ _ h; omega
  | succ k ih =>
    intro i t mi C ht hi h4 hk
    unfold b_X11_type_67
    by_cases hin : i < n
    · simp only [if_neg (nI_ge hin (show n < 2 ^ 31 by omega)), mr_tape, mg_tapeSize, Option.bind_some, ht, ms_tape (show t < 400 by omega), nI_1, mp_tapeSize]
      obtain ⟨f, e1, e2⟩ := ih (i + 1) (t + 1) (upd mi 1 (nI (t + 1))) (ua C 1 (upd (C 1) t (mw w i))) pk_us (by omega) (by omega) (by omega)
      refine ⟨f, ?_, fun q => ?_⟩
      · refine e1.trans ?_
        rw [ua_ua, show t + 1 + (n - (i + 1)) = t + (n - i) by omega]
        congr 3
        funext j
        unfold upd
        split <;> rfl
      · rw [e2, ua_s]
        (try simp only [upd]); repeat' split
        all_goals first | rfl | (exfalso; omega) | (congr 1; omega)
    · have : i = n := by omega
      subst this
      simp only [if_pos (nI_le (Nat.le_refl i) (show i < 2 ^ 31 by omega)), mg_tapeSize, Option.bind_some, ht]
      refine ⟨C 1, ?_, fun q => by rw [if_neg (by omega)]⟩
      rw [ua_self, show t + (i - i) = t by omega]
      congr 3
      funext j
      unfold upd
      split
      · next h => rw [h, ht]
      · rfl
theorem m_type16_t {w : Int64} {n : Nat} (hn : n ≤ 8) : ∀ (fuel i : Nat), i ≤ n → n - i < fuel → (∀ k, i ≤ k → k < n → okB (mw w k)) → ∀ t, mi 1 = nI t → b_X11_type_16 fuel (mh y mi ml C E g) y w (nI n) (nI i) = if nI t + nI n ≤ (400 : Int32) then b_X11_type_67 zFuel (mh y mi ml C E g) y w (nI n) 0 else some (-3, mh y mi ml C E g) := by
  intro fuel
  induction fuel with
  | zero => intro i _ h; omega
  | succ k ih =>
    intro i hi hk hok t ht
    unfold b_X11_type_16
    by_cases hin : i < n
    · have hb : okB (mw w i) := hok i (Nat.le_refl _) hin
      unfold mw at hb
      simp only [if_neg (nI_ge hin (show n < 2 ^ 31 by omega)), m_isByte_t hb, zbp_some, if_neg (show ¬ (1 : Int32) = 0 by decide), nI_1]
      exact ih (i + 1) (by omega) (by omega) (fun q h1 h2 => hok q (by omega) h2) t ht
    · have : i = n := by omega
      subst this
      simp only [if_pos (nI_le (Nat.le_refl i) (show i < 2 ^ 31 by omega)), Option.bind_some, mg_tapeSize, ht]
theorem m_type16_f {w : Int64} {n : Nat} (hn : n ≤ 8) : ∀ (fuel i : Nat), i ≤ n → n - i < fuel → (∃ k, i ≤ k ∧ k < n ∧ ¬ okB (mw w k)) → b_X11_type_16 fuel (mh y mi ml C E g) y w (nI n) (nI i) = some (-2, mh y mi ml C E g) := by
  intro fuel
  induction fuel with
  | zero => intro i _ h; omega
  | succ k ih =>
    intro i hi hk ⟨q, h1, h2, h3⟩
    unfold b_X11_type_16
    simp only [if_neg (nI_ge (show i < n by omega) (show n < 2 ^ 31 by omega))]
    by_cases hb : okB (mw w i)
    · have hb' := hb
      unfold mw at hb'
      simp only [m_isByte_t hb', zbp_some, if_neg (show ¬ (1 : Int32) = 0 by decide), nI_1]
      exact ih (i + 1) (by omega) (by omega) ⟨q, by rcases Nat.lt_or_eq_of_le h1 with h | rfl; omega; exact absurd hb h3, h2, h3⟩
    · have hb' := hb
      unfold mw at hb'
      simp only [m_isByte_f hb', zbp_some, if_true]
/-- type answers alike -/
theorem op_type (w : Int64) (n : Int32) (hT : rTape si A mi C) : ∃ r si' A' mi' C', b_X10_type_0 (xh x si sq sl A B g) x w n = some (r, xh x si' sq sl A' B g) ∧ b_X11_type_0 (mh y mi ml C E g2) y w n = some (r, mh y mi' ml C' E g2) ∧ rTape si' A' mi' C' ∧ (∀ k j, k ≠ 1 → si' k j = si k j) ∧ (∀ k, k ≠ 2 → A' k = A k) ∧ (∀ k, k ≠ 1 → mi' k = mi k) ∧ (∀ k, k ≠ 1 → C' k = C k) := by
  obtain ⟨t, ht, t1, t2, t3⟩ := id hT
  have same : ∀ r, b_X10_type_0 (xh x si sq sl A B g) x w n = some (r, xh x si sq sl A B g) → b_X11_type_0 (mh y mi ml C E g2) y w n = some (r, mh y mi ml C E g2) → ∃ r si' A' mi' C', b_X10_type_0 (xh x si sq sl A B g) x w n = some (r, xh x si' sq sl A' B g) ∧ b_X11_type_0 (mh y mi ml C E g2) y w n = some (r, mh y mi' ml C' E g2) ∧ rTape si' A' mi' C' ∧ (∀ k j, k ≠ 1 → si' k j = si k j) ∧ (∀ k, k ≠ 2 → A' k = A k) ∧ (∀ k, k ≠ 1 → mi' k = mi k) ∧ (∀ k, k ≠ 1 → C' k = C k) :=
    fun r e1 e2 => ⟨r, si, A, mi, C, e1, e2, hT, fun _ _ _ => rfl, fun _ _ => rfl, fun _ _ => rfl, fun _ _ => rfl⟩
  by_cases hr : 1 ≤ n ∧ n ≤ 8
  · obtain ⟨k, hk8, rfl⟩ := nI_of2 (x := n) (M := 8) (n := 8) rfl (i_nlt.mpr (Int32.le_trans (by decide) hr.1)) hr.2
    have ex : b_X10_type_0 (xh x si sq sl A B g) x w (nI k) = b_X10_type_17 zFuel (xh x si sq sl A B g) x w (nI k) (nI 0) := by
      unfold b_X10_type_0
      rw [if_neg (i_nlt.mpr hr.1), if_pos hr.2]
      rfl
    have em : b_X11_type_0 (mh y mi ml C E g2) y w (nI k) = b_X11_type_16 zFuel (mh y mi ml C E g2) y w (nI k) (nI 0) := by
      unfold b_X11_type_0
      rw [m_in_t hr.1 hr.2, zbp_some, if_neg (by decide)]
      rfl
    by_cases hok : ∀ q, q < k → okB (mw w q)
    · have hok2 : ∀ q, q < k → okB (xw w q) := fun q hq => by rw [xw_mw w (by omega)]; exact hok q hq
      rw [x_type17_t hk8 zFuel 0 (by omega) (zF_lt (by omega)) (fun q _ h => hok2 q h) t t1] at ex
      rw [m_type16_t hk8 zFuel 0 (by omega) (zF_lt (by omega)) (fun q _ h => hok q h) t t2] at em
      rw [nI_add] at ex em
      by_cases h4 : t + k ≤ 400
      · rw [if_pos (show nI (t + k) ≤ (400 : Int32) from nI_le (b := 400) h4 (by decide))] at ex em
        obtain ⟨f, e1, e2⟩ := x_type65 (x := x) (sq := sq) (sl := sl) (B := B) (g := g) hk8 hok2 zFuel 0 t si A t1 (by omega) (by omega) (zF_lt (by omega))
        obtain ⟨f', e1', e2'⟩ := m_type67 (y := y) (ml := ml) (E := E) (g := g2) (w := w) hk8 zFuel 0 t mi C t2 (by omega) (by omega) (zF_lt (by omega))
        refine ⟨_, _, _, _, _, ex.trans e1, em.trans e1', ⟨t + (k - 0), by omega, u2_s, pk_us, fun j hj => ?_⟩, fun q j hq => u2_n (Or.inl hq), fun q hq => ua_n hq, fun q hq => pk_un hq, fun q hq => ua_n hq⟩
        rw [ua_s, ua_s, e2, e2']
        by_cases hj2 : t ≤ j
        · rw [if_pos (by omega), if_pos (by omega), xw_mw w (by omega)]
          exact ⟨rfl, hok _ (by omega)⟩
        · rw [if_neg (by omega), if_neg (by omega)]
          exact t3 j (by omega)
      · rw [if_neg (show ¬ nI (t + k) ≤ (400 : Int32) from nI_ge (a := 400) (by omega) (by omega))] at ex em
        exact same _ ex em
    · obtain ⟨q, hq⟩ := Classical.not_forall.mp hok
      obtain ⟨hq1, hq2⟩ := Classical.not_imp.mp hq
      refine same (-2) (ex.trans (x_type17_f hk8 zFuel 0 (by omega) (zF_lt (by omega)) ⟨q, by omega, hq1, by rw [xw_mw w (by omega)]; exact hq2⟩)) (em.trans (m_type16_f hk8 zFuel 0 (by omega) (zF_lt (by omega)) ⟨q, by omega, hq1, hq2⟩))
  · refine same (-2) ?_ ?_
    · unfold b_X10_type_0
      by_cases c1 : n < 1
      · rw [if_pos c1]
        rfl
      · rw [if_neg c1, if_neg (fun q => hr ⟨i_nlt.mp c1, q⟩)]
        rfl
    · unfold b_X11_type_0
      rw [m_in_f hr, zbp_some, if_pos rfl]
end TY
