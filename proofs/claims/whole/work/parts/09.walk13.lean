section G_X11_findSteps
variable {p : Program} {l : Launch} {e : Env} {s : State} {m : MethodId} {args : Array Value} {below : List Frame} {meth : Method} {c : Code} {D : va_G} {K : Nat → ClassId} {b0 N : Nat}
set_option maxRecDepth 100000 in
set_option maxHeartbeats 4000000 in
theorem w_X11_findSteps_162 {res : zh_H} (hB : zc_B p s m args meth c cX11_findSteps 6 RX11 none D K) {k146 : zh_H → Nat → Int32 → Option zh_H} (hk146 : ∀ (H : Heap) (locs : List Loc) (ls : Array Slot) (h : zh_H) (x0 : Nat) (x2 : Int32), zh_G D K b0 N h s.heap H locs → lv_has ls 6 [(0, .ref x0), (2, .int x2)] → k146 h x0 x2 = some res → W p l e (zc_rm 2 0 0) s m args below meth c H locs 0 0 (MQ below (zc_Q D K b0 (zq none N res)) args s 0 0 (fun q => b0 ≤ q)) (F0 m 146 ls [])) : ∀ n : Nat, ∀ (H : Heap) (locs : List Loc) (ls : Array Slot) (h : zh_H) (x0 : Nat) (x2 : Int32) (x3 : Int32), zh_G D K b0 N h s.heap H locs → lv_has ls 6 [(0, .ref x0), (2, .int x2), (3, .int x3)] → b_X11_findSteps_162 k146 n h x0 x2 x3 = some res → W p l e (zc_rm 2 0 0) s m args below meth c H locs 0 0 (MQ below (zc_Q D K b0 (zq none N res)) args s 0 0 (fun q => b0 ≤ q)) (F0 m 162 ls []) := by
  have hx := hB.1
  have hb := hB.2.1
  intro n
  induction n with
  | zero =>
    intro H locs ls h x0 x2 x3 hG hl hf
    cases hf
  | succ n ih =>
    intro H locs ls h x0 x2 x3 hG hl hf
    unfold b_X11_findSteps_162 at hf
    refine lv_iload_n hx hb dX11_findSteps_162 rfl (lv_at hl 2 rfl) ?_
    refine lv_aload_n hx hb dX11_findSteps_163 rfl (lv_at hl 0 rfl) ?_
    obtain ⟨v1, ev1, hf⟩ := zb hf
    refine zr_getI hB hG zF_11 (by decide) kf_X11_172 ev1 dX11_findSteps_164 ?_
    refine lv_icmp_gt (tgt := 196) hx hb dX11_findSteps_167 (by decide) (fun hc6 => ?_) (fun hc6 => ?_)
    · rw [if_pos hc6] at hf
      refine lv_iinc (v := (x2 + (1 : Int32))) (lv' := [(2, .int (x2 + (1 : Int32))), (0, .ref x0), (3, .int x3)]) hx hb dX11_findSteps_196 hl (k := 1) rfl rfl (by decide) rfl (fun ls hl => ?_)
      refine lv_goto (tgt := 146) hx hb dX11_findSteps_199 (by decide) ?_
      exact hk146 _ _ _ h (x0) ((x2 + (1 : Int32))) hG (lv_sub hl [1, 0] rfl) hf
    · rw [if_neg hc6] at hf
      refine lv_aload_n hx hb dX11_findSteps_170 rfl (lv_at hl 0 rfl) ?_
      obtain ⟨a2, ea2, hf⟩ := zb hf
      refine zr_getR hB hG zF_11 (by decide) kf_X11_88 ea2 dX11_findSteps_171 ?_
      refine lv_sipush (v := 401) hx hb dX11_findSteps_174 (by decide) ?_
      refine lv_iload_n hx hb dX11_findSteps_177 rfl (lv_at hl 2 rfl) ?_
      refine lv_imul hx hb dX11_findSteps_178 ?_
      refine lv_iload_n hx hb dX11_findSteps_179 rfl (lv_at hl 1 rfl) ?_
      refine lv_iadd hx hb dX11_findSteps_180 ?_
      refine lv_iconst (v := 1) hx hb dX11_findSteps_181 (by decide) ?_
      refine lv_iadd hx hb dX11_findSteps_182 ?_
      refine lv_aload_n hx hb dX11_findSteps_183 rfl (lv_at hl 0 rfl) ?_
      obtain ⟨a3, ea3, hf⟩ := zb hf
      refine zr_getR hB hG zF_11 (by decide) kf_X11_51 ea3 dX11_findSteps_184 ?_
      refine lv_iload_n hx hb dX11_findSteps_187 rfl (lv_at hl 2 rfl) ?_
      obtain ⟨v4, ev4, hf⟩ := zb hf
      refine zr_iald hB hG ev4 dX11_findSteps_188 ?_
      obtain ⟨h5, eh5, hf⟩ := zb hf
      refine zr_iast hB hG eh5 dX11_findSteps_189 (fun H locs hG => ?_)
      refine lv_iinc (v := (x3 + (1 : Int32))) (lv' := [(3, .int (x3 + (1 : Int32))), (0, .ref x0), (2, .int x2)]) hx hb dX11_findSteps_190 hl (k := 2) rfl rfl (by decide) rfl (fun ls hl => ?_)
      refine lv_goto (tgt := 162) hx hb dX11_findSteps_193 (by decide) ?_
      exact ih _ _ _ h5 (x0) (x2) ((x3 + (1 : Int32))) hG (lv_sub hl [1, 2, 0] rfl) hf

set_option maxRecDepth 100000 in
set_option maxHeartbeats 4000000 in
theorem w_X11_findSteps_454 {res : zh_H} (hB : zc_B p s m args meth c cX11_findSteps 6 RX11 none D K) {k217 : zh_H → Nat → Int32 → Int32 → Option zh_H} (hk217 : ∀ (H : Heap) (locs : List Loc) (ls : Array Slot) (h : zh_H) (x0 : Nat) (x2 : Int32) (x3 : Int32), zh_G D K b0 N h s.heap H locs → lv_has ls 6 [(0, .ref x0), (2, .int x2), (3, .int x3)] → k217 h x0 x2 x3 = some res → W p l e (zc_rm 2 0 0) s m args below meth c H locs 0 0 (MQ below (zc_Q D K b0 (zq none N res)) args s 0 0 (fun q => b0 ≤ q)) (F0 m 217 ls [])) : ∀ (H : Heap) (locs : List Loc) (ls : Array Slot) (h : zh_H) (x0 : Nat) (x2 : Int32) (x3 : Int32) (x5 : Int32), zh_G D K b0 N h s.heap H locs → lv_has ls 6 [(0, .ref x0), (2, .int x2), (3, .int x3), (5, .int x5)] → b_X11_findSteps_454 k217 h x0 x2 x3 x5 = some res → W p l e (zc_rm 2 0 0) s m args below meth c H locs 0 0 (MQ below (zc_Q D K b0 (zq none N res)) args s 0 0 (fun q => b0 ≤ q)) (F0 m 454 ls []) := by
  have hx := hB.1
  have hb := hB.2.1
  intro H locs ls h x0 x2 x3 x5 hG hl hf
  unfold b_X11_findSteps_454 at hf
  refine lv_aload_n hx hb dX11_findSteps_454 rfl (lv_at hl 0 rfl) ?_
  obtain ⟨a1, ea1, hf⟩ := zb hf
  refine zr_getR hB hG zF_11 (by decide) kf_X11_91 ea1 dX11_findSteps_455 ?_
  refine lv_aload_n hx hb dX11_findSteps_458 rfl (lv_at hl 0 rfl) ?_
  obtain ⟨v2, ev2, hf⟩ := zb hf
  refine zr_getI hB hG zF_11 (by decide) kf_X11_214 ev2 dX11_findSteps_459 ?_
  refine lv_iload hx hb dX11_findSteps_462 (lv_at hl 3 rfl) ?_
  obtain ⟨h3, eh3, hf⟩ := zb hf
  refine zr_iast hB hG eh3 dX11_findSteps_464 (fun H locs hG => ?_)
  refine lv_aload_n hx hb dX11_findSteps_465 rfl (lv_at hl 0 rfl) ?_
  refine lv_dup hx hb dX11_findSteps_466 rfl ?_
  obtain ⟨v4, ev4, hf⟩ := zb hf
  refine zr_getI hB hG zF_11 (by decide) kf_X11_214 ev4 dX11_findSteps_467 ?_
  refine lv_iconst (v := 1) hx hb dX11_findSteps_470 (by decide) ?_
  refine lv_iadd hx hb dX11_findSteps_471 ?_
  obtain ⟨h5, eh5, hf⟩ := zb hf
  refine zr_put hB hG zF_11 (by decide) kf_X11_214 rfl rfl rfl eh5 dX11_findSteps_472 (fun H locs hG => ?_)
  refine lv_goto (tgt := 217) hx hb dX11_findSteps_475 (by decide) ?_
  exact hk217 _ _ _ h5 (x0) (x2) (x3) hG (lv_sub hl [0, 1, 2] rfl) hf

set_option maxRecDepth 100000 in
set_option maxHeartbeats 4000000 in
theorem w_X11_findSteps_315 {res : zh_H} (hB : zc_B p s m args meth c cX11_findSteps 6 RX11 none D K) {k217 : zh_H → Nat → Int32 → Int32 → Option zh_H} (hk217 : ∀ (H : Heap) (locs : List Loc) (ls : Array Slot) (h : zh_H) (x0 : Nat) (x2 : Int32) (x3 : Int32), zh_G D K b0 N h s.heap H locs → lv_has ls 6 [(0, .ref x0), (2, .int x2), (3, .int x3)] → k217 h x0 x2 x3 = some res → W p l e (zc_rm 2 0 0) s m args below meth c H locs 0 0 (MQ below (zc_Q D K b0 (zq none N res)) args s 0 0 (fun q => b0 ≤ q)) (F0 m 217 ls [])) : ∀ (H : Heap) (locs : List Loc) (ls : Array Slot) (h : zh_H) (x0 : Nat) (x2 : Int32) (x3 : Int32) (y0 : Int32), zh_G D K b0 N h s.heap H locs → lv_has ls 6 [(0, .ref x0), (2, .int x2), (3, .int x3)] → b_X11_findSteps_315 k217 h x0 x2 x3 y0 = some res → W p l e (zc_rm 2 0 0) s m args below meth c H locs 0 0 (MQ below (zc_Q D K b0 (zq none N res)) args s 0 0 (fun q => b0 ≤ q)) (F0 m 315 ls [.int y0]) := by
  have hx := hB.1
  have hb := hB.2.1
  intro H locs ls h x0 x2 x3 y0 hG hl hf
  unfold b_X11_findSteps_315 at hf
  refine lv_istore (lv' := [(5, .int y0), (0, .ref x0), (2, .int x2), (3, .int x3)]) hx hb dX11_findSteps_315 hl (by decide) rfl (fun ls hl => ?_)
  refine lv_iinc (v := (x2 + (-1 : Int32))) (lv' := [(2, .int (x2 + (-1 : Int32))), (5, .int y0), (0, .ref x0), (3, .int x3)]) hx hb dX11_findSteps_317 hl (k := 2) rfl rfl (by decide) rfl (fun ls hl => ?_)
  refine lv_iinc (v := (x3 + (-1 : Int32))) (lv' := [(3, .int (x3 + (-1 : Int32))), (2, .int (x2 + (-1 : Int32))), (5, .int y0), (0, .ref x0)]) hx hb dX11_findSteps_320 hl (k := 3) rfl rfl (by decide) rfl (fun ls hl => ?_)
  refine lv_goto (tgt := 454) hx hb dX11_findSteps_323 (by decide) ?_
  exact w_X11_findSteps_454 hB hk217 _ _ _ h (x0) ((x2 + (-1 : Int32))) ((x3 + (-1 : Int32))) (y0) hG (lv_sub hl [3, 1, 0, 2] rfl) hf

set_option maxRecDepth 100000 in
set_option maxHeartbeats 4000000 in
theorem w_X11_findSteps_448 {res : zh_H} (hB : zc_B p s m args meth c cX11_findSteps 6 RX11 none D K) {k217 : zh_H → Nat → Int32 → Int32 → Option zh_H} (hk217 : ∀ (H : Heap) (locs : List Loc) (ls : Array Slot) (h : zh_H) (x0 : Nat) (x2 : Int32) (x3 : Int32), zh_G D K b0 N h s.heap H locs → lv_has ls 6 [(0, .ref x0), (2, .int x2), (3, .int x3)] → k217 h x0 x2 x3 = some res → W p l e (zc_rm 2 0 0) s m args below meth c H locs 0 0 (MQ below (zc_Q D K b0 (zq none N res)) args s 0 0 (fun q => b0 ≤ q)) (F0 m 217 ls [])) : ∀ (H : Heap) (locs : List Loc) (ls : Array Slot) (h : zh_H) (x0 : Nat) (x2 : Int32) (x3 : Int32), zh_G D K b0 N h s.heap H locs → lv_has ls 6 [(0, .ref x0), (2, .int x2), (3, .int x3)] → b_X11_findSteps_448 k217 h x0 x2 x3 = some res → W p l e (zc_rm 2 0 0) s m args below meth c H locs 0 0 (MQ below (zc_Q D K b0 (zq none N res)) args s 0 0 (fun q => b0 ≤ q)) (F0 m 448 ls []) := by
  have hx := hB.1
  have hb := hB.2.1
  intro H locs ls h x0 x2 x3 hG hl hf
  unfold b_X11_findSteps_448 at hf
  refine lv_iconst (v := 3) hx hb dX11_findSteps_448 (by decide) ?_
  refine lv_istore (lv' := [(5, .int (3 : Int32)), (0, .ref x0), (2, .int x2), (3, .int x3)]) hx hb dX11_findSteps_449 hl (by decide) rfl (fun ls hl => ?_)
  refine lv_iinc (v := (x2 + (-1 : Int32))) (lv' := [(2, .int (x2 + (-1 : Int32))), (5, .int (3 : Int32)), (0, .ref x0), (3, .int x3)]) hx hb dX11_findSteps_451 hl (k := 2) rfl rfl (by decide) rfl (fun ls hl => ?_)
  exact w_X11_findSteps_454 hB hk217 _ _ _ h (x0) ((x2 + (-1 : Int32))) (x3) ((3 : Int32)) hG (lv_sub hl [2, 0, 3, 1] rfl) hf

set_option maxRecDepth 100000 in
set_option maxHeartbeats 4000000 in
theorem w_X11_findSteps_414 {res : zh_H} (hB : zc_B p s m args meth c cX11_findSteps 6 RX11 none D K) {k217 : zh_H → Nat → Int32 → Int32 → Option zh_H} (hk217 : ∀ (H : Heap) (locs : List Loc) (ls : Array Slot) (h : zh_H) (x0 : Nat) (x2 : Int32) (x3 : Int32), zh_G D K b0 N h s.heap H locs → lv_has ls 6 [(0, .ref x0), (2, .int x2), (3, .int x3)] → k217 h x0 x2 x3 = some res → W p l e (zc_rm 2 0 0) s m args below meth c H locs 0 0 (MQ below (zc_Q D K b0 (zq none N res)) args s 0 0 (fun q => b0 ≤ q)) (F0 m 217 ls [])) : ∀ (H : Heap) (locs : List Loc) (ls : Array Slot) (h : zh_H) (x0 : Nat) (x2 : Int32) (x3 : Int32) (x4 : Int32), zh_G D K b0 N h s.heap H locs → lv_has ls 6 [(0, .ref x0), (2, .int x2), (3, .int x3), (4, .int x4)] → b_X11_findSteps_414 k217 h x0 x2 x3 x4 = some res → W p l e (zc_rm 2 0 0) s m args below meth c H locs 0 0 (MQ below (zc_Q D K b0 (zq none N res)) args s 0 0 (fun q => b0 ≤ q)) (F0 m 414 ls []) := by
  have hx := hB.1
  have hb := hB.2.1
  intro H locs ls h x0 x2 x3 x4 hG hl hf
  unfold b_X11_findSteps_414 at hf
  refine lv_iload_n hx hb dX11_findSteps_414 rfl (lv_at hl 2 rfl) ?_
  refine lv_if_le (tgt := 448) hx hb dX11_findSteps_415 (by decide) (fun hc4 => ?_) (fun hc4 => ?_)
  · rw [if_pos hc4] at hf
    exact w_X11_findSteps_448 hB hk217 _ _ _ h (x0) (x2) (x3) hG (lv_sub hl [0, 1, 2] rfl) hf
  · rw [if_neg hc4] at hf
    refine lv_aload_n hx hb dX11_findSteps_418 rfl (lv_at hl 0 rfl) ?_
    obtain ⟨a1, ea1, hf⟩ := zb hf
    refine zr_getR hB hG zF_11 (by decide) kf_X11_88 ea1 dX11_findSteps_419 ?_
    refine lv_sipush (v := 401) hx hb dX11_findSteps_422 (by decide) ?_
    refine lv_iload_n hx hb dX11_findSteps_425 rfl (lv_at hl 1 rfl) ?_
    refine lv_imul hx hb dX11_findSteps_426 ?_
    refine lv_iload_n hx hb dX11_findSteps_427 rfl (lv_at hl 2 rfl) ?_
    refine lv_iadd hx hb dX11_findSteps_428 ?_
    refine lv_iconst (v := 1) hx hb dX11_findSteps_429 (by decide) ?_
    refine lv_isub hx hb dX11_findSteps_430 ?_
    obtain ⟨v2, ev2, hf⟩ := zb hf
    refine zr_iald hB hG ev2 dX11_findSteps_431 ?_
    refine lv_iconst (v := 1) hx hb dX11_findSteps_432 (by decide) ?_
    refine lv_iadd hx hb dX11_findSteps_433 ?_
    refine lv_iload hx hb dX11_findSteps_434 (lv_at hl 3 rfl) ?_
    refine lv_icmp_ne (tgt := 448) hx hb dX11_findSteps_436 (by decide) (fun hc3 => ?_) (fun hc3 => ?_)
    · rw [if_neg hc3] at hf
      exact w_X11_findSteps_448 hB hk217 _ _ _ h (x0) (x2) (x3) hG (lv_sub hl [0, 1, 2] rfl) hf
    · rw [if_pos hc3] at hf
      refine lv_iconst (v := 2) hx hb dX11_findSteps_439 (by decide) ?_
      refine lv_istore (lv' := [(5, .int (2 : Int32)), (0, .ref x0), (2, .int x2), (3, .int x3), (4, .int x4)]) hx hb dX11_findSteps_440 hl (by decide) rfl (fun ls hl => ?_)
      refine lv_iinc (v := (x3 + (-1 : Int32))) (lv' := [(3, .int (x3 + (-1 : Int32))), (5, .int (2 : Int32)), (0, .ref x0), (2, .int x2), (4, .int x4)]) hx hb dX11_findSteps_442 hl (k := 3) rfl rfl (by decide) rfl (fun ls hl => ?_)
      refine lv_goto (tgt := 454) hx hb dX11_findSteps_445 (by decide) ?_
      exact w_X11_findSteps_454 hB hk217 _ _ _ h (x0) (x2) ((x3 + (-1 : Int32))) ((2 : Int32)) hG (lv_sub hl [2, 3, 0, 1] rfl) hf

set_option maxRecDepth 100000 in
set_option maxHeartbeats 4000000 in
theorem w_X11_findSteps_326 {res : zh_H} (hB : zc_B p s m args meth c cX11_findSteps 6 RX11 none D K) {k217 : zh_H → Nat → Int32 → Int32 → Option zh_H} (hk217 : ∀ (H : Heap) (locs : List Loc) (ls : Array Slot) (h : zh_H) (x0 : Nat) (x2 : Int32) (x3 : Int32), zh_G D K b0 N h s.heap H locs → lv_has ls 6 [(0, .ref x0), (2, .int x2), (3, .int x3)] → k217 h x0 x2 x3 = some res → W p l e (zc_rm 2 0 0) s m args below meth c H locs 0 0 (MQ below (zc_Q D K b0 (zq none N res)) args s 0 0 (fun q => b0 ≤ q)) (F0 m 217 ls [])) : ∀ (H : Heap) (locs : List Loc) (ls : Array Slot) (h : zh_H) (x0 : Nat) (x2 : Int32) (x3 : Int32) (x4 : Int32), zh_G D K b0 N h s.heap H locs → lv_has ls 6 [(0, .ref x0), (2, .int x2), (3, .int x3), (4, .int x4)] → b_X11_findSteps_326 k217 h x0 x2 x3 x4 = some res → W p l e (zc_rm 2 0 0) s m args below meth c H locs 0 0 (MQ below (zc_Q D K b0 (zq none N res)) args s 0 0 (fun q => b0 ≤ q)) (F0 m 326 ls []) := by
  have hx := hB.1
  have hb := hB.2.1
  intro H locs ls h x0 x2 x3 x4 hG hl hf
  unfold b_X11_findSteps_326 at hf
  refine lv_aload_n hx hb dX11_findSteps_326 rfl (lv_at hl 0 rfl) ?_
  obtain ⟨v1, ev1, hf⟩ := zb hf
  refine zr_getI hB hG zF_11 (by decide) kf_X11_185 ev1 dX11_findSteps_327 ?_
  refine lv_if_eq (tgt := 414) hx hb dX11_findSteps_330 (by decide) (fun hc19 => ?_) (fun hc19 => ?_)
  · rw [if_pos hc19] at hf
    exact w_X11_findSteps_414 hB hk217 _ _ _ h (x0) (x2) (x3) (x4) hG (lv_sub hl [0, 1, 2, 3] rfl) hf
  · rw [if_neg hc19] at hf
    refine lv_iload_n hx hb dX11_findSteps_333 rfl (lv_at hl 1 rfl) ?_
    refine lv_iconst (v := 1) hx hb dX11_findSteps_334 (by decide) ?_
    refine lv_icmp_le (tgt := 414) hx hb dX11_findSteps_335 (by decide) (fun hc18 => ?_) (fun hc18 => ?_)
    · rw [if_pos hc18] at hf
      exact w_X11_findSteps_414 hB hk217 _ _ _ h (x0) (x2) (x3) (x4) hG (lv_sub hl [0, 1, 2, 3] rfl) hf
    · rw [if_neg hc18] at hf
      refine lv_iload_n hx hb dX11_findSteps_338 rfl (lv_at hl 2 rfl) ?_
      refine lv_iconst (v := 1) hx hb dX11_findSteps_339 (by decide) ?_
      refine lv_icmp_le (tgt := 414) hx hb dX11_findSteps_340 (by decide) (fun hc17 => ?_) (fun hc17 => ?_)
      · rw [if_pos hc17] at hf
        exact w_X11_findSteps_414 hB hk217 _ _ _ h (x0) (x2) (x3) (x4) hG (lv_sub hl [0, 1, 2, 3] rfl) hf
      · rw [if_neg hc17] at hf
        refine lv_aload_n hx hb dX11_findSteps_343 rfl (lv_at hl 0 rfl) ?_
        refine lv_iload_n hx hb dX11_findSteps_344 rfl (lv_at hl 1 rfl) ?_
        refine lv_iconst (v := 2) hx hb dX11_findSteps_345 (by decide) ?_
        refine lv_isub hx hb dX11_findSteps_346 ?_
        refine lv_aload_n hx hb dX11_findSteps_347 rfl (lv_at hl 0 rfl) ?_
        obtain ⟨a2, ea2, hf⟩ := zb hf
        refine zr_getR hB hG zF_11 (by decide) kf_X11_48 ea2 dX11_findSteps_348 ?_
        refine lv_iload_n hx hb dX11_findSteps_351 rfl (lv_at hl 2 rfl) ?_
        refine lv_iconst (v := 1) hx hb dX11_findSteps_352 (by decide) ?_
        refine lv_isub hx hb dX11_findSteps_353 ?_
        obtain ⟨v3, ev3, hf⟩ := zb hf
        refine zr_iald hB hG ev3 dX11_findSteps_354 ?_
        obtain ⟨o4, eo4, hf⟩ := zb hf
        obtain ⟨v6, h5, eh5, hf⟩ := zbp_s hf
        refine zr_callV (As := [.int (x2 - (2 : Int32)), .int v3]) kc_X11_178 hB hG (c_X11_fits eh5) eo4 rfl hl.1 rfl ⟨by decide, by decide⟩ (Nat.le_of_ble_eq_true rfl) ⟨by decide, by decide⟩ dX11_findSteps_355 (fun H locs hG => ?_)
        refine lv_if_eq (tgt := 414) hx hb dX11_findSteps_358 (by decide) (fun hc16 => ?_) (fun hc16 => ?_)
        · rw [if_pos hc16] at hf
          exact w_X11_findSteps_414 hB hk217 _ _ _ h5 (x0) (x2) (x3) (x4) hG (lv_sub hl [0, 1, 2, 3] rfl) hf
        · rw [if_neg hc16] at hf
          refine lv_aload_n hx hb dX11_findSteps_361 rfl (lv_at hl 0 rfl) ?_
          refine lv_iload_n hx hb dX11_findSteps_362 rfl (lv_at hl 1 rfl) ?_
          refine lv_iconst (v := 1) hx hb dX11_findSteps_363 (by decide) ?_
          refine lv_isub hx hb dX11_findSteps_364 ?_
          refine lv_aload_n hx hb dX11_findSteps_365 rfl (lv_at hl 0 rfl) ?_
          obtain ⟨a7, ea7, hf⟩ := zb hf
          refine zr_getR hB hG zF_11 (by decide) kf_X11_48 ea7 dX11_findSteps_366 ?_
          refine lv_iload_n hx hb dX11_findSteps_369 rfl (lv_at hl 2 rfl) ?_
          refine lv_iconst (v := 2) hx hb dX11_findSteps_370 (by decide) ?_
          refine lv_isub hx hb dX11_findSteps_371 ?_
          obtain ⟨v8, ev8, hf⟩ := zb hf
          refine zr_iald hB hG ev8 dX11_findSteps_372 ?_
          obtain ⟨o9, eo9, hf⟩ := zb hf
          obtain ⟨v11, h10, eh10, hf⟩ := zbp_s hf
          refine zr_callV (As := [.int (x2 - (1 : Int32)), .int v8]) kc_X11_178 hB hG (c_X11_fits eh10) eo9 rfl hl.1 rfl ⟨by decide, by decide⟩ (Nat.le_of_ble_eq_true rfl) ⟨by decide, by decide⟩ dX11_findSteps_373 (fun H locs hG => ?_)
          refine lv_if_eq (tgt := 414) hx hb dX11_findSteps_376 (by decide) (fun hc15 => ?_) (fun hc15 => ?_)
          · rw [if_pos hc15] at hf
            exact w_X11_findSteps_414 hB hk217 _ _ _ h10 (x0) (x2) (x3) (x4) hG (lv_sub hl [0, 1, 2, 3] rfl) hf
          · rw [if_neg hc15] at hf
            refine lv_aload_n hx hb dX11_findSteps_379 rfl (lv_at hl 0 rfl) ?_
            obtain ⟨a12, ea12, hf⟩ := zb hf
            refine zr_getR hB hG zF_11 (by decide) kf_X11_88 ea12 dX11_findSteps_380 ?_
            refine lv_sipush (v := 401) hx hb dX11_findSteps_383 (by decide) ?_
            refine lv_iload_n hx hb dX11_findSteps_386 rfl (lv_at hl 1 rfl) ?_
            refine lv_iconst (v := 2) hx hb dX11_findSteps_387 (by decide) ?_
            refine lv_isub hx hb dX11_findSteps_388 ?_
            refine lv_imul hx hb dX11_findSteps_389 ?_
            refine lv_iload_n hx hb dX11_findSteps_390 rfl (lv_at hl 2 rfl) ?_
            refine lv_iadd hx hb dX11_findSteps_391 ?_
            refine lv_iconst (v := 2) hx hb dX11_findSteps_392 (by decide) ?_
            refine lv_isub hx hb dX11_findSteps_393 ?_
            obtain ⟨v13, ev13, hf⟩ := zb hf
            refine zr_iald hB hG ev13 dX11_findSteps_394 ?_
            refine lv_iconst (v := 1) hx hb dX11_findSteps_395 (by decide) ?_
            refine lv_iadd hx hb dX11_findSteps_396 ?_
            refine lv_iload hx hb dX11_findSteps_397 (lv_at hl 3 rfl) ?_
            refine lv_icmp_ne (tgt := 414) hx hb dX11_findSteps_399 (by decide) (fun hc14 => ?_) (fun hc14 => ?_)
            · rw [if_neg hc14] at hf
              exact w_X11_findSteps_414 hB hk217 _ _ _ h10 (x0) (x2) (x3) (x4) hG (lv_sub hl [0, 1, 2, 3] rfl) hf
            · rw [if_pos hc14] at hf
              refine lv_iconst (v := 4) hx hb dX11_findSteps_402 (by decide) ?_
              refine lv_istore (lv' := [(5, .int (4 : Int32)), (0, .ref x0), (2, .int x2), (3, .int x3), (4, .int x4)]) hx hb dX11_findSteps_403 hl (by decide) rfl (fun ls hl => ?_)
              refine lv_iinc (v := (x2 + (-2 : Int32))) (lv' := [(2, .int (x2 + (-2 : Int32))), (5, .int (4 : Int32)), (0, .ref x0), (3, .int x3), (4, .int x4)]) hx hb dX11_findSteps_405 hl (k := 2) rfl rfl (by decide) rfl (fun ls hl => ?_)
              refine lv_iinc (v := (x3 + (-2 : Int32))) (lv' := [(3, .int (x3 + (-2 : Int32))), (2, .int (x2 + (-2 : Int32))), (5, .int (4 : Int32)), (0, .ref x0), (4, .int x4)]) hx hb dX11_findSteps_408 hl (k := 3) rfl rfl (by decide) rfl (fun ls hl => ?_)
              refine lv_goto (tgt := 454) hx hb dX11_findSteps_411 (by decide) ?_
              exact w_X11_findSteps_454 hB hk217 _ _ _ h10 (x0) ((x2 + (-2 : Int32))) ((x3 + (-2 : Int32))) ((4 : Int32)) hG (lv_sub hl [3, 1, 0, 2] rfl) hf

set_option maxRecDepth 100000 in
set_option maxHeartbeats 4000000 in
theorem w_X11_findSteps_286 {res : zh_H} (hB : zc_B p s m args meth c cX11_findSteps 6 RX11 none D K) {k217 : zh_H → Nat → Int32 → Int32 → Option zh_H} (hk217 : ∀ (H : Heap) (locs : List Loc) (ls : Array Slot) (h : zh_H) (x0 : Nat) (x2 : Int32) (x3 : Int32), zh_G D K b0 N h s.heap H locs → lv_has ls 6 [(0, .ref x0), (2, .int x2), (3, .int x3)] → k217 h x0 x2 x3 = some res → W p l e (zc_rm 2 0 0) s m args below meth c H locs 0 0 (MQ below (zc_Q D K b0 (zq none N res)) args s 0 0 (fun q => b0 ≤ q)) (F0 m 217 ls [])) : ∀ (H : Heap) (locs : List Loc) (ls : Array Slot) (h : zh_H) (x0 : Nat) (x2 : Int32) (x3 : Int32) (x4 : Int32) (y0 : Int32) (y1 : Int32), zh_G D K b0 N h s.heap H locs → lv_has ls 6 [(0, .ref x0), (2, .int x2), (3, .int x3), (4, .int x4)] → b_X11_findSteps_286 k217 h x0 x2 x3 x4 y0 y1 = some res → W p l e (zc_rm 2 0 0) s m args below meth c H locs 0 0 (MQ below (zc_Q D K b0 (zq none N res)) args s 0 0 (fun q => b0 ≤ q)) (F0 m 286 ls [.int y0, .int y1]) := by
  have hx := hB.1
  have hb := hB.2.1
  intro H locs ls h x0 x2 x3 x4 y0 y1 hG hl hf
  unfold b_X11_findSteps_286 at hf
  refine lv_iadd hx hb dX11_findSteps_286 ?_
  refine lv_iload hx hb dX11_findSteps_287 (lv_at hl 3 rfl) ?_
  refine lv_icmp_ne (tgt := 326) hx hb dX11_findSteps_289 (by decide) (fun hc7 => ?_) (fun hc7 => ?_)
  · rw [if_neg hc7] at hf
    exact w_X11_findSteps_326 hB hk217 _ _ _ h (x0) (x2) (x3) (x4) hG (lv_sub hl [0, 1, 2, 3] rfl) hf
  · rw [if_pos hc7] at hf
    refine lv_aload_n hx hb dX11_findSteps_292 rfl (lv_at hl 0 rfl) ?_
    refine lv_iload_n hx hb dX11_findSteps_293 rfl (lv_at hl 1 rfl) ?_
    refine lv_iconst (v := 1) hx hb dX11_findSteps_294 (by decide) ?_
    refine lv_isub hx hb dX11_findSteps_295 ?_
    refine lv_aload_n hx hb dX11_findSteps_296 rfl (lv_at hl 0 rfl) ?_
    obtain ⟨a1, ea1, hf⟩ := zb hf
    refine zr_getR hB hG zF_11 (by decide) kf_X11_48 ea1 dX11_findSteps_297 ?_
    refine lv_iload_n hx hb dX11_findSteps_300 rfl (lv_at hl 2 rfl) ?_
    refine lv_iconst (v := 1) hx hb dX11_findSteps_301 (by decide) ?_
    refine lv_isub hx hb dX11_findSteps_302 ?_
    obtain ⟨v2, ev2, hf⟩ := zb hf
    refine zr_iald hB hG ev2 dX11_findSteps_303 ?_
    obtain ⟨o3, eo3, hf⟩ := zb hf
    obtain ⟨v5, h4, eh4, hf⟩ := zbp_s hf
    refine zr_callV (As := [.int (x2 - (1 : Int32)), .int v2]) kc_X11_178 hB hG (c_X11_fits eh4) eo3 rfl hl.1 rfl ⟨by decide, by decide⟩ (Nat.le_of_ble_eq_true rfl) ⟨by decide, by decide⟩ dX11_findSteps_304 (fun H locs hG => ?_)
    refine lv_if_eq (tgt := 314) hx hb dX11_findSteps_307 (by decide) (fun hc6 => ?_) (fun hc6 => ?_)
    · rw [if_pos hc6] at hf
      refine lv_iconst (v := 1) hx hb dX11_findSteps_314 (by decide) ?_
      exact w_X11_findSteps_315 hB hk217 _ _ _ h4 (x0) (x2) (x3) ((1 : Int32)) hG (lv_sub hl [0, 1, 2] rfl) hf
    · rw [if_neg hc6] at hf
      refine lv_iconst (v := 0) hx hb dX11_findSteps_310 (by decide) ?_
      refine lv_goto (tgt := 315) hx hb dX11_findSteps_311 (by decide) ?_
      exact w_X11_findSteps_315 hB hk217 _ _ _ h4 (x0) (x2) (x3) ((0 : Int32)) hG (lv_sub hl [0, 1, 2] rfl) hf

set_option maxRecDepth 100000 in
set_option maxHeartbeats 4000000 in
theorem w_X11_findSteps_225 {res : zh_H} (hB : zc_B p s m args meth c cX11_findSteps 6 RX11 none D K) {k217 : zh_H → Nat → Int32 → Int32 → Option zh_H} (hk217 : ∀ (H : Heap) (locs : List Loc) (ls : Array Slot) (h : zh_H) (x0 : Nat) (x2 : Int32) (x3 : Int32), zh_G D K b0 N h s.heap H locs → lv_has ls 6 [(0, .ref x0), (2, .int x2), (3, .int x3)] → k217 h x0 x2 x3 = some res → W p l e (zc_rm 2 0 0) s m args below meth c H locs 0 0 (MQ below (zc_Q D K b0 (zq none N res)) args s 0 0 (fun q => b0 ≤ q)) (F0 m 217 ls [])) : ∀ (H : Heap) (locs : List Loc) (ls : Array Slot) (h : zh_H) (x0 : Nat) (x2 : Int32) (x3 : Int32), zh_G D K b0 N h s.heap H locs → lv_has ls 6 [(0, .ref x0), (2, .int x2), (3, .int x3)] → b_X11_findSteps_225 k217 h x0 x2 x3 = some res → W p l e (zc_rm 2 0 0) s m args below meth c H locs 0 0 (MQ below (zc_Q D K b0 (zq none N res)) args s 0 0 (fun q => b0 ≤ q)) (F0 m 225 ls []) := by
  have hx := hB.1
  have hb := hB.2.1
  intro H locs ls h x0 x2 x3 hG hl hf
  unfold b_X11_findSteps_225 at hf
  refine lv_aload_n hx hb dX11_findSteps_225 rfl (lv_at hl 0 rfl) ?_
  obtain ⟨a1, ea1, hf⟩ := zb hf
  refine zr_getR hB hG zF_11 (by decide) kf_X11_88 ea1 dX11_findSteps_226 ?_
  refine lv_sipush (v := 401) hx hb dX11_findSteps_229 (by decide) ?_
  refine lv_iload_n hx hb dX11_findSteps_232 rfl (lv_at hl 1 rfl) ?_
  refine lv_imul hx hb dX11_findSteps_233 ?_
  refine lv_iload_n hx hb dX11_findSteps_234 rfl (lv_at hl 2 rfl) ?_
  refine lv_iadd hx hb dX11_findSteps_235 ?_
  obtain ⟨v2, ev2, hf⟩ := zb hf
  refine zr_iald hB hG ev2 dX11_findSteps_236 ?_
  refine lv_istore (lv' := [(4, .int v2), (0, .ref x0), (2, .int x2), (3, .int x3)]) hx hb dX11_findSteps_237 hl (by decide) rfl (fun ls hl => ?_)
  refine lv_iload_n hx hb dX11_findSteps_239 rfl (lv_at hl 2 rfl) ?_
  refine lv_if_le (tgt := 326) hx hb dX11_findSteps_240 (by decide) (fun hc12 => ?_) (fun hc12 => ?_)
  · rw [if_pos hc12] at hf
    exact w_X11_findSteps_326 hB hk217 _ _ _ h (x0) (x2) (x3) (v2) hG (lv_sub hl [1, 2, 3, 0] rfl) hf
  · rw [if_neg hc12] at hf
    refine lv_iload_n hx hb dX11_findSteps_243 rfl (lv_at hl 3 rfl) ?_
    refine lv_if_le (tgt := 326) hx hb dX11_findSteps_244 (by decide) (fun hc11 => ?_) (fun hc11 => ?_)
    · rw [if_pos hc11] at hf
      exact w_X11_findSteps_326 hB hk217 _ _ _ h (x0) (x2) (x3) (v2) hG (lv_sub hl [1, 2, 3, 0] rfl) hf
    · rw [if_neg hc11] at hf
      refine lv_aload_n hx hb dX11_findSteps_247 rfl (lv_at hl 1 rfl) ?_
      obtain ⟨a3, ea3, hf⟩ := zb hf
      refine zr_getR hB hG zF_11 (by decide) kf_X11_88 ea3 dX11_findSteps_248 ?_
      refine lv_sipush (v := 401) hx hb dX11_findSteps_251 (by decide) ?_
      refine lv_iload_n hx hb dX11_findSteps_254 rfl (lv_at hl 2 rfl) ?_
      refine lv_iconst (v := 1) hx hb dX11_findSteps_255 (by decide) ?_
      refine lv_isub hx hb dX11_findSteps_256 ?_
      refine lv_imul hx hb dX11_findSteps_257 ?_
      refine lv_iload_n hx hb dX11_findSteps_258 rfl (lv_at hl 3 rfl) ?_
      refine lv_iadd hx hb dX11_findSteps_259 ?_
      refine lv_iconst (v := 1) hx hb dX11_findSteps_260 (by decide) ?_
      refine lv_isub hx hb dX11_findSteps_261 ?_
      obtain ⟨v4, ev4, hf⟩ := zb hf
      refine zr_iald hB hG ev4 dX11_findSteps_262 ?_
      refine lv_aload_n hx hb dX11_findSteps_263 rfl (lv_at hl 1 rfl) ?_
      refine lv_iload_n hx hb dX11_findSteps_264 rfl (lv_at hl 2 rfl) ?_
      refine lv_iconst (v := 1) hx hb dX11_findSteps_265 (by decide) ?_
      refine lv_isub hx hb dX11_findSteps_266 ?_
      refine lv_aload_n hx hb dX11_findSteps_267 rfl (lv_at hl 1 rfl) ?_
      obtain ⟨a5, ea5, hf⟩ := zb hf
      refine zr_getR hB hG zF_11 (by decide) kf_X11_48 ea5 dX11_findSteps_268 ?_
      refine lv_iload_n hx hb dX11_findSteps_271 rfl (lv_at hl 3 rfl) ?_
      refine lv_iconst (v := 1) hx hb dX11_findSteps_272 (by decide) ?_
      refine lv_isub hx hb dX11_findSteps_273 ?_
      obtain ⟨v6, ev6, hf⟩ := zb hf
      refine zr_iald hB hG ev6 dX11_findSteps_274 ?_
      obtain ⟨o7, eo7, hf⟩ := zb hf
      obtain ⟨v9, h8, eh8, hf⟩ := zbp_s hf
      refine zr_callV (As := [.int (x2 - (1 : Int32)), .int v6]) kc_X11_178 hB hG (c_X11_fits eh8) eo7 rfl hl.1 rfl ⟨by decide, by decide⟩ (Nat.le_of_ble_eq_true rfl) ⟨by decide, by decide⟩ dX11_findSteps_275 (fun H locs hG => ?_)
      refine lv_if_eq (tgt := 285) hx hb dX11_findSteps_278 (by decide) (fun hc10 => ?_) (fun hc10 => ?_)
      · rw [if_pos hc10] at hf
        refine lv_iconst (v := 1) hx hb dX11_findSteps_285 (by decide) ?_
        exact w_X11_findSteps_286 hB hk217 _ _ _ h8 (x0) (x2) (x3) (v2) ((1 : Int32)) (v4) hG (lv_sub hl [1, 2, 3, 0] rfl) hf
      · rw [if_neg hc10] at hf
        refine lv_iconst (v := 0) hx hb dX11_findSteps_281 (by decide) ?_
        refine lv_goto (tgt := 286) hx hb dX11_findSteps_282 (by decide) ?_
        exact w_X11_findSteps_286 hB hk217 _ _ _ h8 (x0) (x2) (x3) (v2) ((0 : Int32)) (v4) hG (lv_sub hl [1, 2, 3, 0] rfl) hf

set_option maxRecDepth 100000 in
set_option maxHeartbeats 4000000 in
theorem w_X11_findSteps_217 {res : zh_H} (hB : zc_B p s m args meth c cX11_findSteps 6 RX11 none D K) : ∀ n : Nat, ∀ (H : Heap) (locs : List Loc) (ls : Array Slot) (h : zh_H) (x0 : Nat) (x2 : Int32) (x3 : Int32), zh_G D K b0 N h s.heap H locs → lv_has ls 6 [(0, .ref x0), (2, .int x2), (3, .int x3)] → b_X11_findSteps_217 n h x0 x2 x3 = some res → W p l e (zc_rm 2 0 0) s m args below meth c H locs 0 0 (MQ below (zc_Q D K b0 (zq none N res)) args s 0 0 (fun q => b0 ≤ q)) (F0 m 217 ls []) := by
  have hx := hB.1
  have hb := hB.2.1
  intro n
  induction n with
  | zero =>
    intro H locs ls h x0 x2 x3 hG hl hf
    cases hf
  | succ n ih =>
    intro H locs ls h x0 x2 x3 hG hl hf
    unfold b_X11_findSteps_217 at hf
    refine lv_iload_n hx hb dX11_findSteps_217 rfl (lv_at hl 1 rfl) ?_
    refine lv_if_gt (tgt := 225) hx hb dX11_findSteps_218 (by decide) (fun hc2 => ?_) (fun hc2 => ?_)
    · rw [if_pos hc2] at hf
      exact w_X11_findSteps_225 hB ih _ _ _ h (x0) (x2) (x3) hG (lv_sub hl [0, 1, 2] rfl) hf
    · rw [if_neg hc2] at hf
      refine lv_iload_n hx hb dX11_findSteps_221 rfl (lv_at hl 2 rfl) ?_
      refine lv_if_le (tgt := 478) hx hb dX11_findSteps_222 (by decide) (fun hc1 => ?_) (fun hc1 => ?_)
      · rw [if_pos hc1] at hf
        obtain rfl := Option.some.inj hf
        exact zr_vret hB hG ⟨rfl, rfl, rfl⟩ dX11_findSteps_478
      · rw [if_neg hc1] at hf
        exact w_X11_findSteps_225 hB ih _ _ _ h (x0) (x2) (x3) hG (lv_sub hl [0, 1, 2] rfl) hf

set_option maxRecDepth 100000 in
set_option maxHeartbeats 4000000 in
theorem w_X11_findSteps_146 {res : zh_H} (hB : zc_B p s m args meth c cX11_findSteps 6 RX11 none D K) : ∀ n : Nat, ∀ (H : Heap) (locs : List Loc) (ls : Array Slot) (h : zh_H) (x0 : Nat) (x2 : Int32), zh_G D K b0 N h s.heap H locs → lv_has ls 6 [(0, .ref x0), (2, .int x2)] → b_X11_findSteps_146 n h x0 x2 = some res → W p l e (zc_rm 2 0 0) s m args below meth c H locs 0 0 (MQ below (zc_Q D K b0 (zq none N res)) args s 0 0 (fun q => b0 ≤ q)) (F0 m 146 ls []) := by
  have hx := hB.1
  have hb := hB.2.1
  intro n
  induction n with
  | zero =>
    intro H locs ls h x0 x2 hG hl hf
    cases hf
  | succ n ih =>
    intro H locs ls h x0 x2 hG hl hf
    unfold b_X11_findSteps_146 at hf
    refine lv_iload_n hx hb dX11_findSteps_146 rfl (lv_at hl 1 rfl) ?_
    refine lv_aload_n hx hb dX11_findSteps_147 rfl (lv_at hl 0 rfl) ?_
    obtain ⟨v1, ev1, hf⟩ := zb hf
    refine zr_getI hB hG zF_11 (by decide) kf_X11_175 ev1 dX11_findSteps_148 ?_
    refine lv_icmp_ge (tgt := 202) hx hb dX11_findSteps_151 (by decide) (fun hc7 => ?_) (fun hc7 => ?_)
    · rw [if_pos hc7] at hf
      refine lv_aload_n hx hb dX11_findSteps_202 rfl (lv_at hl 0 rfl) ?_
      refine lv_iconst (v := 0) hx hb dX11_findSteps_203 (by decide) ?_
      obtain ⟨h2, eh2, hf⟩ := zb hf
      refine zr_put hB hG zF_11 (by decide) kf_X11_214 rfl rfl rfl eh2 dX11_findSteps_204 (fun H locs hG => ?_)
      refine lv_aload_n hx hb dX11_findSteps_207 rfl (lv_at hl 0 rfl) ?_
      obtain ⟨v3, ev3, hf⟩ := zb hf
      refine zr_getI hB hG zF_11 (by decide) kf_X11_172 ev3 dX11_findSteps_208 ?_
      refine lv_istore_n (lv' := [(2, .int v3), (0, .ref x0)]) hx hb dX11_findSteps_211 rfl hl (by decide) rfl (fun ls hl => ?_)
      refine lv_aload_n hx hb dX11_findSteps_212 rfl (lv_at hl 1 rfl) ?_
      obtain ⟨v4, ev4, hf⟩ := zb hf
      refine zr_getI hB hG zF_11 (by decide) kf_X11_175 ev4 dX11_findSteps_213 ?_
      refine lv_istore_n (lv' := [(3, .int v4), (2, .int v3), (0, .ref x0)]) hx hb dX11_findSteps_216 rfl hl (by decide) rfl (fun ls hl => ?_)
      exact w_X11_findSteps_217 hB zFuel _ _ _ h2 (x0) (v3) (v4) hG (lv_sub hl [2, 1, 0] rfl) hf
    · rw [if_neg hc7] at hf
      refine lv_aload_n hx hb dX11_findSteps_154 rfl (lv_at hl 0 rfl) ?_
      refine lv_iload_n hx hb dX11_findSteps_155 rfl (lv_at hl 1 rfl) ?_
      refine lv_iconst (v := 0) hx hb dX11_findSteps_156 (by decide) ?_
      obtain ⟨o5, eo5, hf⟩ := zb hf
      obtain ⟨h6, eh6, hf⟩ := zb hf
      refine zr_callVv (As := [.int x2, .int (0 : Int32)]) kc_X11_192 hB hG (c_X11_column eh6) eo5 rfl hl.1 rfl ⟨by decide, by decide⟩ (Nat.le_of_ble_eq_true rfl) ⟨by decide, by decide⟩ dX11_findSteps_157 (fun H locs hG => ?_)
      refine lv_iconst (v := 0) hx hb dX11_findSteps_160 (by decide) ?_
      refine lv_istore_n (lv' := [(3, .int (0 : Int32)), (0, .ref x0), (2, .int x2)]) hx hb dX11_findSteps_161 rfl hl (by decide) rfl (fun ls hl => ?_)
      exact w_X11_findSteps_162 hB ih zFuel _ _ _ h6 (x0) (x2) ((0 : Int32)) hG (lv_sub hl [1, 2, 0] rfl) hf

set_option maxRecDepth 100000 in
set_option maxHeartbeats 4000000 in
theorem w_X11_findSteps_114 {res : zh_H} (hB : zc_B p s m args meth c cX11_findSteps 6 RX11 none D K) : ∀ n : Nat, ∀ (H : Heap) (locs : List Loc) (ls : Array Slot) (h : zh_H) (x0 : Nat) (x2 : Int32), zh_G D K b0 N h s.heap H locs → lv_has ls 6 [(0, .ref x0), (2, .int x2)] → b_X11_findSteps_114 n h x0 x2 = some res → W p l e (zc_rm 2 0 0) s m args below meth c H locs 0 0 (MQ below (zc_Q D K b0 (zq none N res)) args s 0 0 (fun q => b0 ≤ q)) (F0 m 114 ls []) := by
  have hx := hB.1
  have hb := hB.2.1
  intro n
  induction n with
  | zero =>
    intro H locs ls h x0 x2 hG hl hf
    cases hf
  | succ n ih =>
    intro H locs ls h x0 x2 hG hl hf
    unfold b_X11_findSteps_114 at hf
    refine lv_iload_n hx hb dX11_findSteps_114 rfl (lv_at hl 1 rfl) ?_
    refine lv_aload_n hx hb dX11_findSteps_115 rfl (lv_at hl 0 rfl) ?_
    obtain ⟨v1, ev1, hf⟩ := zb hf
    refine zr_getI hB hG zF_11 (by decide) kf_X11_172 ev1 dX11_findSteps_116 ?_
    refine lv_icmp_gt (tgt := 144) hx hb dX11_findSteps_119 (by decide) (fun hc6 => ?_) (fun hc6 => ?_)
    · rw [if_pos hc6] at hf
      refine lv_iconst (v := 0) hx hb dX11_findSteps_144 (by decide) ?_
      refine lv_istore_n (lv' := [(2, .int (0 : Int32)), (0, .ref x0)]) hx hb dX11_findSteps_145 rfl hl (by decide) rfl (fun ls hl => ?_)
      exact w_X11_findSteps_146 hB zFuel _ _ _ h (x0) ((0 : Int32)) hG (lv_sub hl [1, 0] rfl) hf
    · rw [if_neg hc6] at hf
      refine lv_aload_n hx hb dX11_findSteps_122 rfl (lv_at hl 0 rfl) ?_
      obtain ⟨a2, ea2, hf⟩ := zb hf
      refine zr_getR hB hG zF_11 (by decide) kf_X11_88 ea2 dX11_findSteps_123 ?_
      refine lv_sipush (v := 401) hx hb dX11_findSteps_126 (by decide) ?_
      refine lv_iload_n hx hb dX11_findSteps_129 rfl (lv_at hl 1 rfl) ?_
      refine lv_imul hx hb dX11_findSteps_130 ?_
      refine lv_aload_n hx hb dX11_findSteps_131 rfl (lv_at hl 0 rfl) ?_
      obtain ⟨a3, ea3, hf⟩ := zb hf
      refine zr_getR hB hG zF_11 (by decide) kf_X11_51 ea3 dX11_findSteps_132 ?_
      refine lv_iload_n hx hb dX11_findSteps_135 rfl (lv_at hl 1 rfl) ?_
      obtain ⟨v4, ev4, hf⟩ := zb hf
      refine zr_iald hB hG ev4 dX11_findSteps_136 ?_
      obtain ⟨h5, eh5, hf⟩ := zb hf
      refine zr_iast hB hG eh5 dX11_findSteps_137 (fun H locs hG => ?_)
      refine lv_iinc (v := (x2 + (1 : Int32))) (lv' := [(2, .int (x2 + (1 : Int32))), (0, .ref x0)]) hx hb dX11_findSteps_138 hl (k := 1) rfl rfl (by decide) rfl (fun ls hl => ?_)
      refine lv_goto (tgt := 114) hx hb dX11_findSteps_141 (by decide) ?_
      exact ih _ _ _ h5 (x0) ((x2 + (1 : Int32))) hG (lv_sub hl [1, 0] rfl) hf

set_option maxRecDepth 100000 in
set_option maxHeartbeats 4000000 in
theorem w_X11_findSteps_75 {res : zh_H} (hB : zc_B p s m args meth c cX11_findSteps 6 RX11 none D K) : ∀ n : Nat, ∀ (H : Heap) (locs : List Loc) (ls : Array Slot) (h : zh_H) (x0 : Nat) (x1 : Int32) (x2 : Int32), zh_G D K b0 N h s.heap H locs → lv_has ls 6 [(0, .ref x0), (1, .int x1), (2, .int x2)] → b_X11_findSteps_75 n h x0 x1 x2 = some res → W p l e (zc_rm 2 0 0) s m args below meth c H locs 0 0 (MQ below (zc_Q D K b0 (zq none N res)) args s 0 0 (fun q => b0 ≤ q)) (F0 m 75 ls []) := by
  have hx := hB.1
  have hb := hB.2.1
  intro n
  induction n with
  | zero =>
    intro H locs ls h x0 x1 x2 hG hl hf
    cases hf
  | succ n ih =>
    intro H locs ls h x0 x1 x2 hG hl hf
    unfold b_X11_findSteps_75 at hf
    refine lv_iload_n hx hb dX11_findSteps_75 rfl (lv_at hl 2 rfl) ?_
    refine lv_aload_n hx hb dX11_findSteps_76 rfl (lv_at hl 0 rfl) ?_
    obtain ⟨v1, ev1, hf⟩ := zb hf
    refine zr_getI hB hG zF_11 (by decide) kf_X11_175 ev1 dX11_findSteps_77 ?_
    refine lv_icmp_ge (tgt := 108) hx hb dX11_findSteps_80 (by decide) (fun hc10 => ?_) (fun hc10 => ?_)
    · rw [if_pos hc10] at hf
      refine lv_aload_n hx hb dX11_findSteps_108 rfl (lv_at hl 0 rfl) ?_
      obtain ⟨o2, eo2, hf⟩ := zb hf
      obtain ⟨h3, eh3, hf⟩ := zb hf
      refine zr_callVv (As := []) kc_X11_189 hB hG (c_X11_firstColumn eh3) eo2 rfl hl.1 rfl ⟨by decide, by decide⟩ (Nat.le_of_ble_eq_true rfl) ⟨by decide, by decide⟩ dX11_findSteps_109 (fun H locs hG => ?_)
      refine lv_iconst (v := 0) hx hb dX11_findSteps_112 (by decide) ?_
      refine lv_istore_n (lv' := [(2, .int (0 : Int32)), (0, .ref x0), (1, .int x1)]) hx hb dX11_findSteps_113 rfl hl (by decide) rfl (fun ls hl => ?_)
      exact w_X11_findSteps_114 hB zFuel _ _ _ h3 (x0) ((0 : Int32)) hG (lv_sub hl [1, 0] rfl) hf
    · rw [if_neg hc10] at hf
      refine lv_aload_n hx hb dX11_findSteps_83 rfl (lv_at hl 0 rfl) ?_
      obtain ⟨a4, ea4, hf⟩ := zb hf
      refine zr_getR hB hG zF_11 (by decide) kf_X11_48 ea4 dX11_findSteps_84 ?_
      refine lv_iload_n hx hb dX11_findSteps_87 rfl (lv_at hl 2 rfl) ?_
      refine lv_aload_n hx hb dX11_findSteps_88 rfl (lv_at hl 0 rfl) ?_
      obtain ⟨a5, ea5, hf⟩ := zb hf
      refine zr_getR hB hG zF_11 (by decide) kf_X11_78 ea5 dX11_findSteps_89 ?_
      refine lv_aload_n hx hb dX11_findSteps_92 rfl (lv_at hl 0 rfl) ?_
      obtain ⟨a6, ea6, hf⟩ := zb hf
      refine zr_getR hB hG zF_11 (by decide) kf_X11_75 ea6 dX11_findSteps_93 ?_
      refine lv_iload_n hx hb dX11_findSteps_96 rfl (lv_at hl 1 rfl) ?_
      obtain ⟨v7, ev7, hf⟩ := zb hf
      refine zr_iald hB hG ev7 dX11_findSteps_97 ?_
      refine lv_iload_n hx hb dX11_findSteps_98 rfl (lv_at hl 2 rfl) ?_
      refine lv_iadd hx hb dX11_findSteps_99 ?_
      obtain ⟨v8, ev8, hf⟩ := zb hf
      refine zr_iald hB hG ev8 dX11_findSteps_100 ?_
      obtain ⟨h9, eh9, hf⟩ := zb hf
      refine zr_iast hB hG eh9 dX11_findSteps_101 (fun H locs hG => ?_)
      refine lv_iinc (v := (x2 + (1 : Int32))) (lv' := [(2, .int (x2 + (1 : Int32))), (0, .ref x0), (1, .int x1)]) hx hb dX11_findSteps_102 hl (k := 2) rfl rfl (by decide) rfl (fun ls hl => ?_)
      refine lv_goto (tgt := 75) hx hb dX11_findSteps_105 (by decide) ?_
      exact ih _ _ _ h9 (x0) (x1) ((x2 + (1 : Int32))) hG (lv_sub hl [1, 2, 0] rfl) hf

set_option maxRecDepth 100000 in
set_option maxHeartbeats 4000000 in
theorem w_X11_findSteps_18 {res : zh_H} (hB : zc_B p s m args meth c cX11_findSteps 6 RX11 none D K) : ∀ n : Nat, ∀ (H : Heap) (locs : List Loc) (ls : Array Slot) (h : zh_H) (x0 : Nat) (x1 : Int32) (x2 : Int32), zh_G D K b0 N h s.heap H locs → lv_has ls 6 [(0, .ref x0), (1, .int x1), (2, .int x2)] → b_X11_findSteps_18 n h x0 x1 x2 = some res → W p l e (zc_rm 2 0 0) s m args below meth c H locs 0 0 (MQ below (zc_Q D K b0 (zq none N res)) args s 0 0 (fun q => b0 ≤ q)) (F0 m 18 ls []) := by
  have hx := hB.1
  have hb := hB.2.1
  intro n
  induction n with
  | zero =>
    intro H locs ls h x0 x1 x2 hG hl hf
    cases hf
  | succ n ih =>
    intro H locs ls h x0 x1 x2 hG hl hf
    unfold b_X11_findSteps_18 at hf
    refine lv_iload_n hx hb dX11_findSteps_18 rfl (lv_at hl 2 rfl) ?_
    refine lv_aload_n hx hb dX11_findSteps_19 rfl (lv_at hl 0 rfl) ?_
    obtain ⟨v1, ev1, hf⟩ := zb hf
    refine zr_getI hB hG zF_11 (by decide) kf_X11_172 ev1 dX11_findSteps_20 ?_
    refine lv_icmp_ge (tgt := 56) hx hb dX11_findSteps_23 (by decide) (fun hc15 => ?_) (fun hc15 => ?_)
    · rw [if_pos hc15] at hf
      refine lv_aload_n hx hb dX11_findSteps_56 rfl (lv_at hl 0 rfl) ?_
      refine lv_aload_n hx hb dX11_findSteps_57 rfl (lv_at hl 0 rfl) ?_
      obtain ⟨a2, ea2, hf⟩ := zb hf
      refine zr_getR hB hG zF_11 (by decide) kf_X11_69 ea2 dX11_findSteps_58 ?_
      refine lv_iload_n hx hb dX11_findSteps_61 rfl (lv_at hl 1 rfl) ?_
      obtain ⟨v3, ev3, hf⟩ := zb hf
      refine zr_iald hB hG ev3 dX11_findSteps_62 ?_
      refine lv_aload_n hx hb dX11_findSteps_63 rfl (lv_at hl 0 rfl) ?_
      obtain ⟨a4, ea4, hf⟩ := zb hf
      refine zr_getR hB hG zF_11 (by decide) kf_X11_75 ea4 dX11_findSteps_64 ?_
      refine lv_iload_n hx hb dX11_findSteps_67 rfl (lv_at hl 1 rfl) ?_
      obtain ⟨v5, ev5, hf⟩ := zb hf
      refine zr_iald hB hG ev5 dX11_findSteps_68 ?_
      refine lv_isub hx hb dX11_findSteps_69 ?_
      obtain ⟨h6, eh6, hf⟩ := zb hf
      refine zr_put hB hG zF_11 (by decide) kf_X11_175 rfl rfl rfl eh6 dX11_findSteps_70 (fun H locs hG => ?_)
      refine lv_iconst (v := 0) hx hb dX11_findSteps_73 (by decide) ?_
      refine lv_istore_n (lv' := [(2, .int (0 : Int32)), (0, .ref x0), (1, .int x1)]) hx hb dX11_findSteps_74 rfl hl (by decide) rfl (fun ls hl => ?_)
      exact w_X11_findSteps_75 hB zFuel _ _ _ h6 (x0) (x1) ((0 : Int32)) hG (lv_sub hl [1, 2, 0] rfl) hf
    · rw [if_neg hc15] at hf
      refine lv_aload_n hx hb dX11_findSteps_26 rfl (lv_at hl 0 rfl) ?_
      obtain ⟨a7, ea7, hf⟩ := zb hf
      refine zr_getR hB hG zF_11 (by decide) kf_X11_42 ea7 dX11_findSteps_27 ?_
      refine lv_iload_n hx hb dX11_findSteps_30 rfl (lv_at hl 2 rfl) ?_
      refine lv_aload_n hx hb dX11_findSteps_31 rfl (lv_at hl 0 rfl) ?_
      obtain ⟨a8, ea8, hf⟩ := zb hf
      refine zr_getR hB hG zF_11 (by decide) kf_X11_81 ea8 dX11_findSteps_32 ?_
      refine lv_iload_n hx hb dX11_findSteps_35 rfl (lv_at hl 2 rfl) ?_
      obtain ⟨u9, eu9, hf⟩ := zb hf
      refine zr_lald hB hG eu9 dX11_findSteps_36 ?_
      obtain ⟨h10, eh10, hf⟩ := zb hf
      refine zr_last hB hG eh10 dX11_findSteps_37 (fun H locs hG => ?_)
      refine lv_aload_n hx hb dX11_findSteps_38 rfl (lv_at hl 0 rfl) ?_
      obtain ⟨a11, ea11, hf⟩ := zb hf
      refine zr_getR hB hG zF_11 (by decide) kf_X11_45 ea11 dX11_findSteps_39 ?_
      refine lv_iload_n hx hb dX11_findSteps_42 rfl (lv_at hl 2 rfl) ?_
      refine lv_aload_n hx hb dX11_findSteps_43 rfl (lv_at hl 0 rfl) ?_
      obtain ⟨a12, ea12, hf⟩ := zb hf
      refine zr_getR hB hG zF_11 (by decide) kf_X11_84 ea12 dX11_findSteps_44 ?_
      refine lv_iload_n hx hb dX11_findSteps_47 rfl (lv_at hl 2 rfl) ?_
      obtain ⟨u13, eu13, hf⟩ := zb hf
      refine zr_lald hB hG eu13 dX11_findSteps_48 ?_
      obtain ⟨h14, eh14, hf⟩ := zb hf
      refine zr_last hB hG eh14 dX11_findSteps_49 (fun H locs hG => ?_)
      refine lv_iinc (v := (x2 + (1 : Int32))) (lv' := [(2, .int (x2 + (1 : Int32))), (0, .ref x0), (1, .int x1)]) hx hb dX11_findSteps_50 hl (k := 2) rfl rfl (by decide) rfl (fun ls hl => ?_)
      refine lv_goto (tgt := 18) hx hb dX11_findSteps_53 (by decide) ?_
      exact ih _ _ _ h14 (x0) (x1) ((x2 + (1 : Int32))) hG (lv_sub hl [1, 2, 0] rfl) hf

set_option maxRecDepth 100000 in
set_option maxHeartbeats 4000000 in
theorem w_X11_findSteps_0 {res : zh_H} (hB : zc_B p s m args meth c cX11_findSteps 6 RX11 none D K) : ∀ (H : Heap) (locs : List Loc) (ls : Array Slot) (h : zh_H) (x0 : Nat) (x1 : Int32), zh_G D K b0 N h s.heap H locs → lv_has ls 6 [(0, .ref x0), (1, .int x1)] → b_X11_findSteps_0 h x0 x1 = some res → W p l e (zc_rm 2 0 0) s m args below meth c H locs 0 0 (MQ below (zc_Q D K b0 (zq none N res)) args s 0 0 (fun q => b0 ≤ q)) (F0 m 0 ls []) := by
  have hx := hB.1
  have hb := hB.2.1
  intro H locs ls h x0 x1 hG hl hf
  unfold b_X11_findSteps_0 at hf
  refine lv_aload_n hx hb dX11_findSteps_0 rfl (lv_at hl 0 rfl) ?_
  refine lv_aload_n hx hb dX11_findSteps_1 rfl (lv_at hl 0 rfl) ?_
  obtain ⟨v1, ev1, hf⟩ := zb hf
  refine zr_getI hB hG zF_11 (by decide) kf_X11_211 ev1 dX11_findSteps_2 ?_
  obtain ⟨h2, eh2, hf⟩ := zb hf
  refine zr_put hB hG zF_11 (by decide) kf_X11_172 rfl rfl rfl eh2 dX11_findSteps_5 (fun H locs hG => ?_)
  refine lv_aload_n hx hb dX11_findSteps_8 rfl (lv_at hl 0 rfl) ?_
  refine lv_aload_n hx hb dX11_findSteps_9 rfl (lv_at hl 0 rfl) ?_
  obtain ⟨v3, ev3, hf⟩ := zb hf
  refine zr_getI hB hG zF_11 (by decide) kf_X11_208 ev3 dX11_findSteps_10 ?_
  obtain ⟨h4, eh4, hf⟩ := zb hf
  refine zr_putZ hB hG zF_11 (by decide) kf_X11_185 rfl rfl eh4 dX11_findSteps_13 (fun H locs hG => ?_)
  refine lv_iconst (v := 0) hx hb dX11_findSteps_16 (by decide) ?_
  refine lv_istore_n (lv' := [(2, .int (0 : Int32)), (0, .ref x0), (1, .int x1)]) hx hb dX11_findSteps_17 rfl hl (by decide) rfl (fun ls hl => ?_)
  exact w_X11_findSteps_18 hB zFuel _ _ _ h4 (x0) (x1) ((0 : Int32)) hG (lv_sub hl [1, 2, 0] rfl) hf
end G_X11_findSteps
theorem c_X11_findSteps {l : Launch} {D : va_G} {K : Nat → ClassId} {b0 N : Nat} {h : zh_H} {x0 : Nat} {x1 : Int32} {h2 : zh_H} (hf : b_X11_findSteps_0 h x0 x1 = some h2) : zc l yX11_findSteps cX11_findSteps 6 none 2 0 0 D K b0 N h [.ref x0, .int x1] (zq none N h2) := by
  refine zc.of [(0, .ref x0), (1, .int x1)] (by decide) rfl (Nat.le_of_ble_eq_true rfl) ?_
  intro p e s m args below meth c hB hnm hG ls hl
  exact w_X11_findSteps_0 (res := h2) hB _ _ ls h x0 x1 hG (lv_sub hl [0, 1] rfl) hf

section G_X11_firstHit
variable {p : Program} {l : Launch} {e : Env} {s : State} {m : MethodId} {args : Array Value} {below : List Frame} {meth : Method} {c : Code} {D : va_G} {K : Nat → ClassId} {b0 N : Nat}
set_option maxRecDepth 100000 in
set_option maxHeartbeats 4000000 in
theorem w_X11_firstHit_50 {res : (Int32 × zh_H)} (hB : zc_B p s m args meth c cX11_firstHit 4 RX11 (some .int) D K) : ∀ (H : Heap) (locs : List Loc) (ls : Array Slot) (h : zh_H) (x3 : Int32), zh_G D K b0 N h s.heap H locs → lv_has ls 4 [(3, .int x3)] → b_X11_firstHit_50 h x3 = some res → W p l e (zc_rm 2 0 0) s m args below meth c H locs 0 0 (MQ below (zc_Q D K b0 (zq (some (.int res.1)) N res.2)) args s 0 0 (fun q => b0 ≤ q)) (F0 m 50 ls []) := by
  have hx := hB.1
  have hb := hB.2.1
  intro H locs ls h x3 hG hl hf
  unfold b_X11_firstHit_50 at hf
  refine lv_iload_n hx hb dX11_firstHit_50 rfl (lv_at hl 0 rfl) ?_
  refine lv_iconst (v := 1) hx hb dX11_firstHit_51 (by decide) ?_
  refine lv_iadd hx hb dX11_firstHit_52 ?_
  obtain rfl := Option.some.inj hf
  exact zr_iret hB hG ⟨rfl, rfl, rfl⟩ dX11_firstHit_53

set_option maxRecDepth 100000 in
set_option maxHeartbeats 4000000 in
theorem w_X11_firstHit_54 {res : (Int32 × zh_H)} (hB : zc_B p s m args meth c cX11_firstHit 4 RX11 (some .int) D K) {k6 : zh_H → Nat → Int32 → Int32 → Int32 → Option (Int32 × zh_H)} (hk6 : ∀ (H : Heap) (locs : List Loc) (ls : Array Slot) (h : zh_H) (x0 : Nat) (x1 : Int32) (x2 : Int32) (x3 : Int32), zh_G D K b0 N h s.heap H locs → lv_has ls 4 [(0, .ref x0), (1, .int x1), (2, .int x2), (3, .int x3)] → k6 h x0 x1 x2 x3 = some res → W p l e (zc_rm 2 0 0) s m args below meth c H locs 0 0 (MQ below (zc_Q D K b0 (zq (some (.int res.1)) N res.2)) args s 0 0 (fun q => b0 ≤ q)) (F0 m 6 ls [])) : ∀ (H : Heap) (locs : List Loc) (ls : Array Slot) (h : zh_H) (x0 : Nat) (x1 : Int32) (x2 : Int32) (x3 : Int32), zh_G D K b0 N h s.heap H locs → lv_has ls 4 [(0, .ref x0), (1, .int x1), (2, .int x2), (3, .int x3)] → b_X11_firstHit_54 k6 h x0 x1 x2 x3 = some res → W p l e (zc_rm 2 0 0) s m args below meth c H locs 0 0 (MQ below (zc_Q D K b0 (zq (some (.int res.1)) N res.2)) args s 0 0 (fun q => b0 ≤ q)) (F0 m 54 ls []) := by
  have hx := hB.1
  have hb := hB.2.1
  intro H locs ls h x0 x1 x2 x3 hG hl hf
  unfold b_X11_firstHit_54 at hf
  refine lv_iinc (v := (x3 + (1 : Int32))) (lv' := [(3, .int (x3 + (1 : Int32))), (0, .ref x0), (1, .int x1), (2, .int x2)]) hx hb dX11_firstHit_54 hl (k := 3) rfl rfl (by decide) rfl (fun ls hl => ?_)
  refine lv_goto (tgt := 6) hx hb dX11_firstHit_57 (by decide) ?_
  exact hk6 _ _ _ h (x0) (x1) (x2) ((x3 + (1 : Int32))) hG (lv_sub hl [1, 2, 3, 0] rfl) hf

set_option maxRecDepth 100000 in
set_option maxHeartbeats 4000000 in
theorem w_X11_firstHit_6 {res : (Int32 × zh_H)} (hB : zc_B p s m args meth c cX11_firstHit 4 RX11 (some .int) D K) : ∀ n : Nat, ∀ (H : Heap) (locs : List Loc) (ls : Array Slot) (h : zh_H) (x0 : Nat) (x1 : Int32) (x2 : Int32) (x3 : Int32), zh_G D K b0 N h s.heap H locs → lv_has ls 4 [(0, .ref x0), (1, .int x1), (2, .int x2), (3, .int x3)] → b_X11_firstHit_6 n h x0 x1 x2 x3 = some res → W p l e (zc_rm 2 0 0) s m args below meth c H locs 0 0 (MQ below (zc_Q D K b0 (zq (some (.int res.1)) N res.2)) args s 0 0 (fun q => b0 ≤ q)) (F0 m 6 ls []) := by
  have hx := hB.1
  have hb := hB.2.1
  intro n
  induction n with
  | zero =>
    intro H locs ls h x0 x1 x2 x3 hG hl hf
    cases hf
  | succ n ih =>
    intro H locs ls h x0 x1 x2 x3 hG hl hf
    unfold b_X11_firstHit_6 at hf
    refine lv_iload_n hx hb dX11_firstHit_6 rfl (lv_at hl 3 rfl) ?_
    refine lv_aload_n hx hb dX11_firstHit_7 rfl (lv_at hl 0 rfl) ?_
    obtain ⟨v1, ev1, hf⟩ := zb hf
    refine zr_getI hB hG zF_11 (by decide) kf_X11_175 ev1 dX11_firstHit_8 ?_
    refine lv_icmp_ge (tgt := 60) hx hb dX11_firstHit_11 (by decide) (fun hc13 => ?_) (fun hc13 => ?_)
    · rw [if_pos hc13] at hf
      refine lv_iconst (v := -1) hx hb dX11_firstHit_60 (by decide) ?_
      obtain rfl := Option.some.inj hf
      exact zr_iret hB hG ⟨rfl, rfl, rfl⟩ dX11_firstHit_61
    · rw [if_neg hc13] at hf
      refine lv_aload_n hx hb dX11_firstHit_14 rfl (lv_at hl 0 rfl) ?_
      refine lv_iload_n hx hb dX11_firstHit_15 rfl (lv_at hl 3 rfl) ?_
      refine lv_iconst (v := 1) hx hb dX11_firstHit_16 (by decide) ?_
      obtain ⟨o2, eo2, hf⟩ := zb hf
      obtain ⟨h3, eh3, hf⟩ := zb hf
      refine zr_callVv (As := [.int x3, .int (1 : Int32)]) kc_X11_192 hB hG (c_X11_column eh3) eo2 rfl hl.1 rfl ⟨by decide, by decide⟩ (Nat.le_of_ble_eq_true rfl) ⟨by decide, by decide⟩ dX11_firstHit_17 (fun H locs hG => ?_)
      refine lv_aload_n hx hb dX11_firstHit_20 rfl (lv_at hl 0 rfl) ?_
      obtain ⟨a4, ea4, hf⟩ := zb hf
      refine zr_getR hB hG zF_11 (by decide) kf_X11_51 ea4 dX11_firstHit_21 ?_
      refine lv_aload_n hx hb dX11_firstHit_24 rfl (lv_at hl 0 rfl) ?_
      obtain ⟨v5, ev5, hf⟩ := zb hf
      refine zr_getI hB hG zF_11 (by decide) kf_X11_172 ev5 dX11_firstHit_25 ?_
      obtain ⟨v6, ev6, hf⟩ := zb hf
      refine zr_iald hB hG ev6 dX11_firstHit_28 ?_
      refine lv_iload_n hx hb dX11_firstHit_29 rfl (lv_at hl 1 rfl) ?_
      refine lv_icmp_gt (tgt := 54) hx hb dX11_firstHit_30 (by decide) (fun hc12 => ?_) (fun hc12 => ?_)
      · rw [if_pos hc12] at hf
        exact w_X11_firstHit_54 hB ih _ _ _ h3 (x0) (x1) (x2) (x3) hG (lv_sub hl [0, 1, 2, 3] rfl) hf
      · rw [if_neg hc12] at hf
        refine lv_iload_n hx hb dX11_firstHit_33 rfl (lv_at hl 2 rfl) ?_
        refine lv_if_eq (tgt := 50) hx hb dX11_firstHit_34 (by decide) (fun hc11 => ?_) (fun hc11 => ?_)
        · rw [if_pos hc11] at hf
          exact w_X11_firstHit_50 hB _ _ _ h3 (x3) hG (lv_sub hl [3] rfl) hf
        · rw [if_neg hc11] at hf
          refine lv_aload_n hx hb dX11_firstHit_37 rfl (lv_at hl 0 rfl) ?_
          obtain ⟨a7, ea7, hf⟩ := zb hf
          refine zr_getR hB hG zF_11 (by decide) kf_X11_60 ea7 dX11_firstHit_38 ?_
          refine lv_aload_n hx hb dX11_firstHit_41 rfl (lv_at hl 0 rfl) ?_
          obtain ⟨v8, ev8, hf⟩ := zb hf
          refine zr_getI hB hG zF_11 (by decide) kf_X11_172 ev8 dX11_firstHit_42 ?_
          obtain ⟨v9, ev9, hf⟩ := zb hf
          refine zr_iald hB hG ev9 dX11_firstHit_45 ?_
          refine lv_iload_n hx hb dX11_firstHit_46 rfl (lv_at hl 3 rfl) ?_
          refine lv_icmp_gt (tgt := 54) hx hb dX11_firstHit_47 (by decide) (fun hc10 => ?_) (fun hc10 => ?_)
          · rw [if_pos hc10] at hf
            exact w_X11_firstHit_54 hB ih _ _ _ h3 (x0) (x1) (x2) (x3) hG (lv_sub hl [0, 1, 2, 3] rfl) hf
          · rw [if_neg hc10] at hf
            exact w_X11_firstHit_50 hB _ _ _ h3 (x3) hG (lv_sub hl [3] rfl) hf

set_option maxRecDepth 100000 in
set_option maxHeartbeats 4000000 in
theorem w_X11_firstHit_0 {res : (Int32 × zh_H)} (hB : zc_B p s m args meth c cX11_firstHit 4 RX11 (some .int) D K) : ∀ (H : Heap) (locs : List Loc) (ls : Array Slot) (h : zh_H) (x0 : Nat) (x1 : Int32) (x2 : Int32), zh_G D K b0 N h s.heap H locs → lv_has ls 4 [(0, .ref x0), (1, .int x1), (2, .int x2)] → b_X11_firstHit_0 h x0 x1 x2 = some res → W p l e (zc_rm 2 0 0) s m args below meth c H locs 0 0 (MQ below (zc_Q D K b0 (zq (some (.int res.1)) N res.2)) args s 0 0 (fun q => b0 ≤ q)) (F0 m 0 ls []) := by
  have hx := hB.1
  have hb := hB.2.1
  intro H locs ls h x0 x1 x2 hG hl hf
  unfold b_X11_firstHit_0 at hf
  refine lv_aload_n hx hb dX11_firstHit_0 rfl (lv_at hl 0 rfl) ?_
  obtain ⟨o1, eo1, hf⟩ := zb hf
  obtain ⟨h2, eh2, hf⟩ := zb hf
  refine zr_callVv (As := []) kc_X11_189 hB hG (c_X11_firstColumn eh2) eo1 rfl hl.1 rfl ⟨by decide, by decide⟩ (Nat.le_of_ble_eq_true rfl) ⟨by decide, by decide⟩ dX11_firstHit_1 (fun H locs hG => ?_)
  refine lv_iconst (v := 0) hx hb dX11_firstHit_4 (by decide) ?_
  refine lv_istore_n (lv' := [(3, .int (0 : Int32)), (0, .ref x0), (1, .int x1), (2, .int x2)]) hx hb dX11_firstHit_5 rfl hl (by decide) rfl (fun ls hl => ?_)
  exact w_X11_firstHit_6 hB zFuel _ _ _ h2 (x0) (x1) (x2) ((0 : Int32)) hG (lv_sub hl [1, 2, 3, 0] rfl) hf
end G_X11_firstHit
theorem c_X11_firstHit {l : Launch} {D : va_G} {K : Nat → ClassId} {b0 N : Nat} {h : zh_H} {x0 : Nat} {x1 : Int32} {x2 : Int32} {r : Int32} {h2 : zh_H} (hf : b_X11_firstHit_0 h x0 x1 x2 = some (r, h2)) : zc l yX11_firstHit cX11_firstHit 4 (some .int) 2 0 0 D K b0 N h [.ref x0, .int x1, .int x2] (zq (some (.int r)) N h2) := by
  refine zc.of [(0, .ref x0), (1, .int x1), (2, .int x2)] (by decide) rfl (Nat.le_of_ble_eq_true rfl) ?_
  intro p e s m args below meth c hB hnm hG ls hl
  exact w_X11_firstHit_0 (res := (r, h2)) hB _ _ ls h x0 x1 x2 hG (lv_sub hl [0, 1, 2] rfl) hf

section G_X11_has
variable {p : Program} {l : Launch} {e : Env} {s : State} {m : MethodId} {args : Array Value} {below : List Frame} {meth : Method} {c : Code} {D : va_G} {K : Nat → ClassId} {b0 N : Nat}
set_option maxRecDepth 100000 in
set_option maxHeartbeats 4000000 in
theorem w_X11_has_45 {res : (Int32 × zh_H)} (hB : zc_B p s m args meth c cX11_has 6 RX11 (some .int) D K) : ∀ (H : Heap) (locs : List Loc) (ls : Array Slot) (h : zh_H), zh_G D K b0 N h s.heap H locs → lv_has ls 6 [] → b_X11_has_45 h  = some res → W p l e (zc_rm 2 0 0) s m args below meth c H locs 0 0 (MQ below (zc_Q D K b0 (zq (some (.int res.1)) N res.2)) args s 0 0 (fun q => b0 ≤ q)) (F0 m 45 ls []) := by
  have hx := hB.1
  have hb := hB.2.1
  intro H locs ls h  hG hl hf
  unfold b_X11_has_45 at hf
  refine lv_bipush (v := -2) hx hb dX11_has_45 (by decide) ?_
  obtain rfl := Option.some.inj hf
  exact zr_iret hB hG ⟨rfl, rfl, rfl⟩ dX11_has_47

set_option maxRecDepth 100000 in
set_option maxHeartbeats 4000000 in
theorem w_X11_has_88 {res : (Int32 × zh_H)} (hB : zc_B p s m args meth c cX11_has 6 RX11 (some .int) D K) : ∀ (H : Heap) (locs : List Loc) (ls : Array Slot) (h : zh_H) (y0 : Int64), zh_G D K b0 N h s.heap H locs → lv_has ls 6 [] → b_X11_has_88 h y0 = some res → W p l e (zc_rm 2 0 0) s m args below meth c H locs 0 0 (MQ below (zc_Q D K b0 (zq (some (.int res.1)) N res.2)) args s 0 0 (fun q => b0 ≤ q)) (F0 m 88 ls [.long y0]) := by
  have hx := hB.1
  have hb := hB.2.1
  intro H locs ls h y0 hG hl hf
  unfold b_X11_has_88 at hf
  refine lv_lstore (lv' := [(4, .long y0)]) hx hb dX11_has_88 hl (by decide) rfl (fun ls hl => ?_)
  refine lv_lload hx hb dX11_has_90 (lv_at hl 0 rfl) ?_
  refine lv_lconst (v := 1) hx hb dX11_has_92 (by decide) ?_
  refine lv_land hx hb dX11_has_93 ?_
  refine lv_l2i hx hb dX11_has_94 rfl ?_
  obtain rfl := Option.some.inj hf
  exact zr_iret hB hG ⟨rfl, rfl, rfl⟩ dX11_has_95

set_option maxRecDepth 100000 in
set_option maxHeartbeats 4000000 in
theorem w_X11_has_29 {res : (Int32 × zh_H)} (hB : zc_B p s m args meth c cX11_has 6 RX11 (some .int) D K) : ∀ (H : Heap) (locs : List Loc) (ls : Array Slot) (h : zh_H) (x0 : Nat) (x1 : Int32) (x2 : Int32) (x3 : Int32) (y0 : Int32) (y1 : Nat) (y2 : Int32) (y3 : Int32), zh_G D K b0 N h s.heap H locs → lv_has ls 6 [(0, .ref x0), (1, .int x1), (2, .int x2), (3, .int x3)] → b_X11_has_29 h x0 x1 x2 x3 y0 y1 y2 y3 = some res → W p l e (zc_rm 2 0 0) s m args below meth c H locs 0 0 (MQ below (zc_Q D K b0 (zq (some (.int res.1)) N res.2)) args s 0 0 (fun q => b0 ≤ q)) (F0 m 29 ls [.int y0, .ref y1, .int y2, .int y3]) := by
  have hx := hB.1
  have hb := hB.2.1
  intro H locs ls h x0 x1 x2 x3 y0 y1 y2 y3 hG hl hf
  unfold b_X11_has_29 at hf
  obtain ⟨v1, ev1, hf⟩ := zb hf
  refine zr_iald hB hG ev1 dX11_has_29 ?_
  refine lv_iconst (v := 1) hx hb dX11_has_30 (by decide) ?_
  refine lv_isub hx hb dX11_has_31 ?_
  obtain ⟨v3, h2, eh2, hf⟩ := zbp_s hf
  refine zr_callS (As := [.int y3, .int y2, .int (v1 - (1 : Int32))]) kc_X11_100 hB hG (c_X11_in eh2) rfl hl.1 rfl ⟨by decide, by decide⟩ (Nat.le_of_ble_eq_true rfl) ⟨by decide, by decide⟩ dX11_has_32 (fun H locs hG => ?_)
  refine lv_if_eq (tgt := 45) hx hb dX11_has_35 (by decide) (fun hc12 => ?_) (fun hc12 => ?_)
  · rw [if_pos hc12] at hf
    exact w_X11_has_45 hB _ _ _ h2  hG (lv_sub hl [] rfl) hf
  · rw [if_neg hc12] at hf
    refine lv_iload_n hx hb dX11_has_38 rfl (lv_at hl 3 rfl) ?_
    obtain ⟨v5, h4, eh4, hf⟩ := zbp_s hf
    refine zr_callS (As := [.int x3]) kc_X11_106 hB hG (c_X11_isByte eh4) rfl hl.1 rfl ⟨by decide, by decide⟩ (Nat.le_of_ble_eq_true rfl) ⟨by decide, by decide⟩ dX11_has_39 (fun H locs hG => ?_)
    refine lv_if_ne (tgt := 48) hx hb dX11_has_42 (by decide) (fun hc11 => ?_) (fun hc11 => ?_)
    · rw [if_neg hc11] at hf
      refine lv_iload_n hx hb dX11_has_48 rfl (lv_at hl 3 rfl) ?_
      refine lv_bipush (v := 64) hx hb dX11_has_49 (by decide) ?_
      refine lv_icmp_ge (tgt := 71) hx hb dX11_has_51 (by decide) (fun hc10 => ?_) (fun hc10 => ?_)
      · rw [if_pos hc10] at hf
        refine lv_aload_n hx hb dX11_has_71 rfl (lv_at hl 0 rfl) ?_
        obtain ⟨a6, ea6, hf⟩ := zb hf
        refine zr_getR hB hG zF_11 (by decide) kf_X11_26 ea6 dX11_has_72 ?_
        refine lv_sipush (v := 200) hx hb dX11_has_75 (by decide) ?_
        refine lv_iload_n hx hb dX11_has_78 rfl (lv_at hl 1 rfl) ?_
        refine lv_imul hx hb dX11_has_79 ?_
        refine lv_iload_n hx hb dX11_has_80 rfl (lv_at hl 2 rfl) ?_
        refine lv_iadd hx hb dX11_has_81 ?_
        obtain ⟨u7, eu7, hf⟩ := zb hf
        refine zr_lald hB hG eu7 dX11_has_82 ?_
        refine lv_iload_n hx hb dX11_has_83 rfl (lv_at hl 3 rfl) ?_
        refine lv_bipush (v := 64) hx hb dX11_has_84 (by decide) ?_
        refine lv_isub hx hb dX11_has_86 ?_
        refine lv_lshr hx hb dX11_has_87 rfl ?_
        exact w_X11_has_88 hB _ _ _ h4 (((u7 >>> (Int32.toInt64 (x3 - (64 : Int32)) &&& 63)))) hG (lv_sub hl [] rfl) hf
      · rw [if_neg hc10] at hf
        refine lv_aload_n hx hb dX11_has_54 rfl (lv_at hl 0 rfl) ?_
        obtain ⟨a8, ea8, hf⟩ := zb hf
        refine zr_getR hB hG zF_11 (by decide) kf_X11_22 ea8 dX11_has_55 ?_
        refine lv_sipush (v := 200) hx hb dX11_has_58 (by decide) ?_
        refine lv_iload_n hx hb dX11_has_61 rfl (lv_at hl 1 rfl) ?_
        refine lv_imul hx hb dX11_has_62 ?_
        refine lv_iload_n hx hb dX11_has_63 rfl (lv_at hl 2 rfl) ?_
        refine lv_iadd hx hb dX11_has_64 ?_
        obtain ⟨u9, eu9, hf⟩ := zb hf
        refine zr_lald hB hG eu9 dX11_has_65 ?_
        refine lv_iload_n hx hb dX11_has_66 rfl (lv_at hl 3 rfl) ?_
        refine lv_lshr hx hb dX11_has_67 rfl ?_
        refine lv_goto (tgt := 88) hx hb dX11_has_68 (by decide) ?_
        exact w_X11_has_88 hB _ _ _ h4 (((u9 >>> (Int32.toInt64 x3 &&& 63)))) hG (lv_sub hl [] rfl) hf
    · rw [if_pos hc11] at hf
      exact w_X11_has_45 hB _ _ _ h4  hG (lv_sub hl [] rfl) hf

set_option maxRecDepth 100000 in
set_option maxHeartbeats 4000000 in
theorem w_X11_has_0 {res : (Int32 × zh_H)} (hB : zc_B p s m args meth c cX11_has 6 RX11 (some .int) D K) : ∀ (H : Heap) (locs : List Loc) (ls : Array Slot) (h : zh_H) (x0 : Nat) (x1 : Int32) (x2 : Int32) (x3 : Int32), zh_G D K b0 N h s.heap H locs → lv_has ls 6 [(0, .ref x0), (1, .int x1), (2, .int x2), (3, .int x3)] → b_X11_has_0 h x0 x1 x2 x3 = some res → W p l e (zc_rm 2 0 0) s m args below meth c H locs 0 0 (MQ below (zc_Q D K b0 (zq (some (.int res.1)) N res.2)) args s 0 0 (fun q => b0 ≤ q)) (F0 m 0 ls []) := by
  have hx := hB.1
  have hb := hB.2.1
  intro H locs ls h x0 x1 x2 x3 hG hl hf
  unfold b_X11_has_0 at hf
  refine lv_aload_n hx hb dX11_has_0 rfl (lv_at hl 0 rfl) ?_
  refine lv_iload_n hx hb dX11_has_1 rfl (lv_at hl 1 rfl) ?_
  obtain ⟨o1, eo1, hf⟩ := zb hf
  obtain ⟨v3, h2, eh2, hf⟩ := zbp_s hf
  refine zr_callV (As := [.int x1]) kc_X11_156 hB hG (c_X11_isThere eh2) eo1 rfl hl.1 rfl ⟨by decide, by decide⟩ (Nat.le_of_ble_eq_true rfl) ⟨by decide, by decide⟩ dX11_has_2 (fun H locs hG => ?_)
  refine lv_if_eq (tgt := 45) hx hb dX11_has_5 (by decide) (fun hc8 => ?_) (fun hc8 => ?_)
  · rw [if_pos hc8] at hf
    exact w_X11_has_45 hB _ _ _ h2  hG (lv_sub hl [] rfl) hf
  · rw [if_neg hc8] at hf
    refine lv_iload_n hx hb dX11_has_8 rfl (lv_at hl 2 rfl) ?_
    refine lv_iconst (v := 0) hx hb dX11_has_9 (by decide) ?_
    refine lv_aload_n hx hb dX11_has_10 rfl (lv_at hl 0 rfl) ?_
    obtain ⟨a4, ea4, hf⟩ := zb hf
    refine zr_getR hB hG zF_11 (by decide) kf_X11_29 ea4 dX11_has_11 ?_
    refine lv_iload_n hx hb dX11_has_14 rfl (lv_at hl 1 rfl) ?_
    refine lv_iconst (v := 0) hx hb dX11_has_15 (by decide) ?_
    refine lv_bipush (v := 7) hx hb dX11_has_16 (by decide) ?_
    obtain ⟨v6, h5, eh5, hf⟩ := zbp_s hf
    refine zr_callS (As := [.int x1, .int (0 : Int32), .int (7 : Int32)]) kc_X11_100 hB hG (c_X11_in eh5) rfl hl.1 rfl ⟨by decide, by decide⟩ (Nat.le_of_ble_eq_true rfl) ⟨by decide, by decide⟩ dX11_has_18 (fun H locs hG => ?_)
    refine lv_if_eq (tgt := 28) hx hb dX11_has_21 (by decide) (fun hc7 => ?_) (fun hc7 => ?_)
    · rw [if_pos hc7] at hf
      refine lv_iconst (v := 0) hx hb dX11_has_28 (by decide) ?_
      exact w_X11_has_29 hB _ _ _ h5 (x0) (x1) (x2) (x3) ((0 : Int32)) (a4) ((0 : Int32)) (x2) hG (lv_sub hl [0, 1, 2, 3] rfl) hf
    · rw [if_neg hc7] at hf
      refine lv_iload_n hx hb dX11_has_24 rfl (lv_at hl 1 rfl) ?_
      refine lv_goto (tgt := 29) hx hb dX11_has_25 (by decide) ?_
      exact w_X11_has_29 hB _ _ _ h5 (x0) (x1) (x2) (x3) (x1) (a4) ((0 : Int32)) (x2) hG (lv_sub hl [0, 1, 2, 3] rfl) hf
end G_X11_has
theorem c_X11_has {l : Launch} {D : va_G} {K : Nat → ClassId} {b0 N : Nat} {h : zh_H} {x0 : Nat} {x1 : Int32} {x2 : Int32} {x3 : Int32} {r : Int32} {h2 : zh_H} (hf : b_X11_has_0 h x0 x1 x2 x3 = some (r, h2)) : zc l yX11_has cX11_has 6 (some .int) 2 0 0 D K b0 N h [.ref x0, .int x1, .int x2, .int x3] (zq (some (.int r)) N h2) := by
  refine zc.of [(0, .ref x0), (1, .int x1), (2, .int x2), (3, .int x3)] (by decide) rfl (Nat.le_of_ble_eq_true rfl) ?_
  intro p e s m args below meth c hB hnm hG ls hl
  exact w_X11_has_0 (res := (r, h2)) hB _ _ ls h x0 x1 x2 x3 hG (lv_sub hl [0, 1, 2, 3] rfl) hf

