/-! APART -/
def loW (v : Int32) : Int64 := if (64 : Int32) ≤ v then (0 : Int64) else (1 : Int64) <<< (Int32.toInt64 v &&& 63)
def hiW (v : Int32) : Int64 := if (64 : Int32) ≤ v then (1 : Int64) <<< (Int32.toInt64 v &&& 63) else (0 : Int64)
theorem hiW_m : ∀ b, b < 127 → hiW (nI b) = if (64 : Int32) ≤ nI b then (1 : Int64) <<< (Int32.toInt64 (nI b - (64 : Int32)) &&& 63) else (0 : Int64) := by decide +kernel
section AP
variable {x : Nat} {si : Nat → Nat → Int32} {sq : Nat → Nat → Nat} {sl : Nat → Nat → Int64} {A : Nat → Nat → Int32} {B : Nat → Nat → Int64} {g g2 : zh_H}
variable {y : Nat} {mi : Nat → Int32} {ml : Nat → Int64} {C : Nat → Nat → Int32} {E : Nat → Nat → Int64}
theorem s44 : isSet 44 := by unfold isSet; omega
theorem x_cpb {a b n : Nat} (hbn : b ≤ n) (hn : n ≤ 1500) : ∀ (fuel i : Nat) (si : Nat → Nat → Int32) (B : Nat → Nat → Int64), si 3 1 = nI n → si 44 2 = nI (i - a) → a ≤ i → i ≤ b → b - i < fuel → (∀ q, q < i - a → B 45 q = loW (A 4 (a + q)) ∧ B 46 q = hiW (A 4 (a + q))) → ∃ B', b_X7_copyBytes_7 fuel (xh x si sq sl A B g) (x + 44) (x + 3) (nI b) (nI i) = some (xh x (u2 si 44 2 (nI (b - a))) sq sl A B' g) ∧ (∀ k, k ≠ 45 → k ≠ 46 → B' k = B k) ∧ ∀ q, q < b - a → B' 45 q = loW (A 4 (a + q)) ∧ B' 46 q = hiW (A 4 (a + q)) := by
  intro fuel
  induction fuel with
  | zero => intro i si B _ _ _ _ h; omega
  | succ f ih =>
    intro i si B h3 h44 hai hib hf hv
    unfold b_X7_copyBytes_7
    by_cases hi : i < b
    · have key : ∀ lo hi : Int64, lo = loW (A 4 i) → hi = hiW (A 4 i) → ∃ B', b_X7_copyBytes_52 (b_X7_copyBytes_7 f) (xh x si sq sl A B g) (x + 44) (x + 3) (nI b) (nI i) hi lo (x + 44) = some (xh x (u2 si 44 2 (nI (b - a))) sq sl A B' g) ∧ (∀ k, k ≠ 45 → k ≠ 46 → B' k = B k) ∧ ∀ q, q < b - a → B' 45 q = loW (A 4 (a + q)) ∧ B' 46 q = hiW (A 4 (a + q)) := by
        intro lo hi' hlo hhi
        unfold b_X7_copyBytes_52
        rw [xs_is s44, Option.bind_some, x_sadd s44 h44 (show i - a < 1500 by omega), Option.bind_some, nI_1]
        obtain ⟨B', e, k1, k2⟩ := ih (i + 1) (u2 si 44 2 (nI (i - a + 1))) (ub (ub B 45 (vp_updL (B 45) (i - a) lo)) 46 (vp_updL (B 46) (i - a) hi')) (by rw [u2_n (Or.inl (by decide))]; exact h3) (by rw [u2_s]; congr 1; omega) (by omega) (by omega) (by omega) (by
          intro q hq
          rw [ub_n (by decide), ub_s, ub_s]
          by_cases hqi : q = i - a
          · subst hqi
            rw [pk_uLs, pk_uLs, show a + (i - a) = i by omega]
            exact ⟨hlo, hhi⟩
          · rw [pk_uLn hqi, pk_uLn hqi]
            exact hv q (by omega))
        refine ⟨B', by rw [e, u2_u2], fun k q1 q2 => by rw [k1 k q1 q2, ub_n q2, ub_n q1], k2⟩
      rw [if_neg (nI_ge hi (by omega)), xr_is r31.1, Option.bind_some, x_get r31.1 h3 (by omega) (show n ≤ rlen 3 from hn), zbp_some]
      unfold b_X7_copyBytes_37
      by_cases h64 : (64 : Int32) ≤ A 4 i
      · rw [if_pos h64, if_pos h64]
        exact key _ _ (by unfold loW; rw [if_pos h64]) (by unfold hiW; rw [if_pos h64])
      · rw [if_neg h64, if_neg h64]
        exact key _ _ (by unfold loW; rw [if_neg h64]) (by unfold hiW; rw [if_neg h64])
    · obtain rfl : i = b := by omega
      rw [if_pos (nI_le (Nat.le_refl _) (by omega))]
      exact ⟨B, by rw [u2_self h44], fun _ _ _ => rfl, hv⟩
theorem m_ap44 {a s n : Nat} {c d sw lim : Int32} (h21 : mi 21 = nI s) (has : a + s ≤ n) (hn : n ≤ 1500) (hok : ∀ q, q < n → okB (C 2 q)) : ∀ (w r f : Nat) (E : Nat → Nat → Int64), r + w = s → (∀ q, q < r → E 10 q = loW (C 2 (a + q)) ∧ E 11 q = hiW (C 2 (a + q))) → ∃ E', b_X11_apart_44 (f + w) (mh y mi ml C E g2) y (nI a) c d sw lim (nI r) = b_X11_apart_44 f (mh y mi ml C E' g2) y (nI a) c d sw lim (nI s) ∧ (∀ k, k ≠ 10 → k ≠ 11 → E' k = E k) ∧ ∀ q, q < s → E' 10 q = loW (C 2 (a + q)) ∧ E' 11 q = hiW (C 2 (a + q)) := by
  intro w
  induction w with
  | zero =>
    intro r f E hr hv
    obtain rfl : r = s := by omega
    exact ⟨E, rfl, fun _ _ _ => rfl, hv⟩
  | succ w ih =>
    intro r f E hr hv
    obtain ⟨b, hb, hbt⟩ := okB_nat (hok (a + r) (by omega))
    have key : ∀ lo hi : Int64, lo = loW (C 2 (a + r)) → hi = hiW (C 2 (a + r)) → ∃ E', b_X11_apart_44 (f + w) (mh y mi ml C (ub (ub E 10 (vp_updL (E 10) r lo)) 11 (vp_updL (E 11) r hi)) g2) y (nI a) c d sw lim (nI (r + 1)) = b_X11_apart_44 f (mh y mi ml C E' g2) y (nI a) c d sw lim (nI s) ∧ (∀ k, k ≠ 10 → k ≠ 11 → E' k = E k) ∧ ∀ q, q < s → E' 10 q = loW (C 2 (a + q)) ∧ E' 11 q = hiW (C 2 (a + q)) := by
      intro lo hi hlo hhi
      obtain ⟨E', e, k1, k2⟩ := ih (r + 1) f (ub (ub E 10 (vp_updL (E 10) r lo)) 11 (vp_updL (E 11) r hi)) (by omega) (by
        intro q hq
        rw [ub_n (by decide), ub_s, ub_s]
        by_cases hqi : q = r
        · subst hqi
          rw [pk_uLs, pk_uLs]
          exact ⟨hlo, hhi⟩
        · rw [pk_uLn hqi, pk_uLn hqi]
          exact hv q (by omega))
      exact ⟨E', e, fun k q1 q2 => by rw [k1 k q1 q2, ub_n q2, ub_n q1], k2⟩
    rw [show f + (w + 1) = f + w + 1 by omega]
    conv => enter [1, E', 1, 1]; unfold b_X11_apart_44
    unfold b_X11_apart_85 b_X11_apart_110
    simp only [mg_sets, Option.bind_some, h21, if_neg (show ¬ nI s ≤ nI r from nI_ge (by omega) (by omega)), mr_text, nI_add, ml_text (show a + r < 1500 by omega), mr_rowLows, mr_rowHighs, ms_rowLows (show r < 1500 by omega), ms_rowHighs (show r < 1500 by omega), ub_n (show 11 ≠ 10 by decide), nI_1]
    by_cases h64 : (64 : Int32) ≤ C 2 (a + r)
    · simp only [if_pos h64]
      refine key _ _ (by unfold loW; rw [if_pos h64]) ?_
      rw [hbt] at h64 ⊢
      rw [hiW_m b hb, if_pos h64]
    · simp only [if_neg h64]
      exact key _ _ (by unfold loW; rw [if_neg h64]) (by unfold hiW; rw [if_neg h64])
theorem op_apart (a b c d : Int32) (sw : Bool) (lim : Int32) (hX : rText si A mi C) (hC : rC sq) : ∃ r si' sq' A' B' mi' C' E', b_X10_apart_0 (xh x si sq sl A B g) x a b c d (bI sw) lim = some (r, xh x si' sq' sl A' B' g) ∧ b_X11_apart_0 (mh y mi ml C E g2) y a b c d (bI sw) lim = some (r, mh y mi' ml C' E' g2) ∧ rC sq' ∧ (∀ k f, k ≠ 60 → k ≠ 69 → k ≠ 44 → si' k f = si k f) ∧ (∀ k f, k ≠ 60 → sq' k f = sq k f) ∧ (∀ k, k < 66 ∨ 68 < k → A' k = A k) ∧ (∀ k, k ≠ 70 → k ≠ 45 → k ≠ 46 → B' k = B k) ∧ (∀ k, k ≠ 21 → k ≠ 23 → k ≠ 24 → mi' k = mi k) ∧ (∀ k, k < 12 ∨ 18 < k → C' k = C k) ∧ (∀ k, k ≠ 10 → k ≠ 11 → E' k = E k) := by
  obtain ⟨n, hn, n1, n2, n3⟩ := hX
  have bad : ∀ (h1 : b_X10_apart_0 (xh x si sq sl A B g) x a b c d (bI sw) lim = some (-2, xh x si sq sl A B g)) (h2 : b_X11_apart_0 (mh y mi ml C E g2) y a b c d (bI sw) lim = some (-2, mh y mi ml C E g2)), ∃ r si' sq' A' B' mi' C' E', b_X10_apart_0 (xh x si sq sl A B g) x a b c d (bI sw) lim = some (r, xh x si' sq' sl A' B' g) ∧ b_X11_apart_0 (mh y mi ml C E g2) y a b c d (bI sw) lim = some (r, mh y mi' ml C' E' g2) ∧ rC sq' ∧ (∀ k f, k ≠ 60 → k ≠ 69 → k ≠ 44 → si' k f = si k f) ∧ (∀ k f, k ≠ 60 → sq' k f = sq k f) ∧ (∀ k, k < 66 ∨ 68 < k → A' k = A k) ∧ (∀ k, k ≠ 70 → k ≠ 45 → k ≠ 46 → B' k = B k) ∧ (∀ k, k ≠ 21 → k ≠ 23 → k ≠ 24 → mi' k = mi k) ∧ (∀ k, k < 12 ∨ 18 < k → C' k = C k) ∧ (∀ k, k ≠ 10 → k ≠ 11 → E' k = E k) :=
    fun h1 h2 => ⟨-2, si, sq, A, B, mi, C, E, h1, h2, hC, fun _ _ _ _ _ => rfl, fun _ _ _ => rfl, fun _ _ => rfl, fun _ _ _ _ => rfl, fun _ _ _ _ => rfl, fun _ _ => rfl, fun _ _ _ => rfl⟩
  by_cases hp : okP a b n
  · by_cases hp2 : okP c d n
    · rcases i_range (a := lim) (n := 2000) (by decide) with ⟨L, hL, rfl⟩ | hL
      · clear bad
        obtain ⟨a, b, rfl, rfl, hab, hbn⟩ := okP_nat (by omega) hp
        obtain ⟨c, d, rfl, rfl, hcd, hdn⟩ := okP_nat (by omega) hp2
        obtain ⟨B1, x1, x2, x3⟩ := x_cpb (x := x) (sq := sq) (sl := sl) (A := A) (g := g) (a := a) hbn hn zFuel a (u2 si 44 2 0) B (by rw [u2_n (Or.inl (by decide))]; exact n1) (by rw [u2_s, Nat.sub_self]; rfl) (Nat.le_refl _) hab (zF_lt (by omega)) (fun q h => by omega)
        rw [u2_u2] at x1
        obtain ⟨E1, m1, m2, m3⟩ := m_ap44 (y := y) (mi := upd mi 21 (nI (b - a))) (ml := ml) (C := C) (g2 := g2) (a := a) (s := b - a) (n := n) (c := nI c) (d := nI d) (sw := bI sw) (lim := nI L) pk_us (by omega) hn (fun q hq => (n3 q hq).2) (b - a) 0 (zFuel - (b - a)) E (by omega) (fun q h => absurd h (Nat.not_lt_zero _))
        have hz : zFuel - (b - a) + (b - a) = zFuel := Nat.sub_add_cancel (Nat.le_of_lt (zF_lt (by omega)))
        rw [hz] at m1
        obtain ⟨C1, m4, m5, m6⟩ := m_loadBytes (y := y) (mi := upd mi 21 (nI (b - a))) (ml := ml) (C := C) (E := E1) (g := g2) hcd (show d ≤ 1500 by omega)
        have hsame : ∀ i, i < b - a → E1 10 i = B1 45 i ∧ E1 11 i = B1 46 i := by
          intro i hi
          rw [(m3 i hi).1, (m3 i hi).2, (x3 i hi).1, (x3 i hi).2, (n3 (a + i) (by omega)).1]
          exact ⟨rfl, rfl⟩
        have hLd : mLd (upd (upd (upd mi 21 (nI (b - a))) 23 (nI (d - c))) 24 (bI sw)) C1 E1 (b - a) (d - c) sw (fun i j => mtx (B1 45) (B1 46) (C 2) i (c + j)) := by
          refine ⟨by rw [pk_un (by decide), pk_un (by decide), pk_us], by rw [pk_un (by decide), pk_us], pk_us, by omega, by omega, fun j hj => ?_⟩
          obtain ⟨e, he, het⟩ := okB_nat (n3 (c + j) (by omega)).2
          refine ⟨e, he, by rw [m6 j hj]; exact het, fun i hi => ?_⟩
          show _ = mtx (B1 45) (B1 46) (C 2) i (c + j)
          rw [mtx_n het he, (hsame i hi).1, (hsame i hi).2]
        obtain ⟨v, si', sq', A', B', d1, d2, d3, d4, d5, d6⟩ := x_distance (x := x) (si := u2 si 44 2 (nI (b - a))) (sq := sq) (sl := sl) (A := A) (B := B1) (g := g) (sw := sw) (L := L) (P := 44) (R := 3) (s := b - a) (a := c) (b := d) (n := n) (mt := fun i j => mtx (B1 45) (B1 46) (C 2) i (c + j)) hL s44 u2_s (show b - a ≤ 1500 by omega) (by omega) r31.1 (by rw [u2_n (Or.inl (by decide))]; exact n1) (show n ≤ rlen 3 from hn) hn hcd hdn hC (by
          intro j hj
          obtain ⟨e, he, het⟩ := okB_nat (n3 (c + j) (by omega)).2
          exact ⟨e, he, (n3 (c + j) (by omega)).1.trans het, fun i hi => (mtx_n het he).symm⟩)
        obtain ⟨C2, k1, k2⟩ := m_distance (y := y) (ml := ml) (g := g2) hLd
        refine ⟨if v ≤ L then nI v else -4, si', sq', A', B', upd (upd (upd mi 21 (nI (b - a))) 23 (nI (d - c))) 24 (bI sw), C2, E1, ?_, ?_, d3, ?_, d2.2.1, d2.2.2.1, ?_, ?_, fun k hk => by rw [k2 k (by omega), m5 k (by omega)], m2⟩
        · unfold b_X10_apart_0 b_X10_apart_87 b_X7_copyBytes_0 b_X7_clear_0
          simp only [xg_EF_1, Option.bind_some, xr_is r31.1, x_isPart_t r31.1 n1 hp, x_isPart_t r31.1 n1 hp2, zbp_some, if_neg (show ¬ (1 : Int32) = 0 by decide), x_isLimit_t hL, xg_EF_5, xs_is s44, xs_p s44, x1, xg_EF_8, xo_Ru, d1]
          by_cases hv : v ≤ L
          · rw [if_pos (nI_le hv (by omega)), if_pos hv]
          · rw [if_neg (nI_ge (by omega) (by omega)), if_neg hv]
        · unfold b_X11_apart_0
          simp only [mis, Option.bind_some, m_isPart_t n2 hp, m_isPart_t n2 hp2, zbp_some, if_neg (show ¬ (1 : Int32) = 0 by decide), m_in_t (nI_pos' (show L < 2 ^ 31 by omega)) (show nI L ≤ (2000 : Int32) from nI_le (b := 2000) hL (by decide)), pk_sub hab, mp_sets]
          rw [show (0 : Int32) = nI 0 from rfl, m1]
          obtain ⟨f, hf⟩ : ∃ f, zFuel - (b - a) = f + 1 := ⟨zFuel - (b - a) - 1, by have := zF_lt (show b - a < 100000 by omega); omega⟩
          rw [hf]
          unfold b_X11_apart_44 b_X11_apart_150
          have hDb := cs_le (fr := false) (mt := fun i j => mtx (B1 45) (B1 46) (C 2) i (c + j)) (sw := sw) (d - c) (b - a)
          rw [mg_sets, Option.bind_some, pk_us, if_pos (nI_le (Nat.le_refl _) (by omega)), mis, Option.bind_some, m4, Option.bind_some, mz_swapping (bI_01 sw), Option.bind_some, mis, Option.bind_some, k1, zbp_some]
          by_cases hD : cs fC (fR false) (fun i j => mtx (B1 45) (B1 46) (C 2) i (c + j)) sw (d - c) (b - a) ≤ L
          · rw [if_pos (nI_le hD (by omega)), d5 hD, if_pos hD]
          · have := d6 (by omega)
            rw [if_neg (nI_ge (by omega) (by omega)), if_neg (by omega)]
        · intro k f q1 q2 q3
          rw [d2.1 k f q1 q2, u2_n (Or.inl q3)]
        · intro k q1 q2 q3
          rw [d2.2.2.2 k q1, x2 k q2 q3]
        · intro k q1 q2 q3
          rw [pk_un q3, pk_un q2, pk_un q1]
      · refine bad ?_ ?_
        · unfold b_X10_apart_0
          simp only [xg_EF_1, Option.bind_some, xr_is r31.1, x_isPart_t r31.1 n1 hp, x_isPart_t r31.1 n1 hp2, zbp_some, if_neg (show ¬ (1 : Int32) = 0 by decide), x_isLimit_f hL, if_true]
          rfl
        · unfold b_X11_apart_0
          simp only [mis, Option.bind_some, m_isPart_t n2 hp, m_isPart_t n2 hp2, zbp_some, if_neg (show ¬ (1 : Int32) = 0 by decide), m_in_f (show ¬ ((0 : Int32) ≤ lim ∧ lim ≤ (2000 : Int32)) from hL), if_true]
          rfl
    · refine bad ?_ ?_
      · unfold b_X10_apart_0
        simp only [xg_EF_1, Option.bind_some, xr_is r31.1, x_isPart_t r31.1 n1 hp, x_isPart_f r31.1 n1 hp2, zbp_some, if_neg (show ¬ (1 : Int32) = 0 by decide), if_true]
        rfl
      · unfold b_X11_apart_0
        simp only [mis, Option.bind_some, m_isPart_t n2 hp, m_isPart_f n2 hp2, zbp_some, if_neg (show ¬ (1 : Int32) = 0 by decide), if_true]
        rfl
  · refine bad ?_ ?_
    · unfold b_X10_apart_0
      simp only [xg_EF_1, Option.bind_some, xr_is r31.1, x_isPart_f r31.1 n1 hp, zbp_some, if_true]
      rfl
    · unfold b_X11_apart_0
      simp only [mis, Option.bind_some, m_isPart_f n2 hp, zbp_some, if_true]
      rfl
end AP
