def zS (L : Nat) (xs : Nat → Int32) (i : Int32) : Option Int32 := if i < 0 ∨ L ≤ i.toNatClampNeg then none else some (xs i.toNatClampNeg)
theorem zS_s {L : Nat} {xs : Nat → Int32} {i v : Int32} (h : zS L xs i = some v) : vp_in i L ∧ v = xs i.toNatClampNeg := by
  unfold zS at h
  split at h
  · cases h
  · next hc => cases h; exact ⟨hc, rfl⟩
section ZL
variable {p : Program} {l : Launch} {e : Env} {R : Room} {s : State} {m : MethodId} {args : Array Value} {below : List Frame} {meth : Method} {c : Code} {H : Heap} {locs : List Loc} {cells slots : Nat} {Q : State → Prop}
variable {cc : ByteArray} {pc : Nat} {ls : Array Slot} {rest : List Value} {D : va_G} {K : Nat → ClassId} {N bS L : Nat} {h : zh_H} {xs : Nat → Int32}
theorem zr_script {i v : Int32} (hx : p.tables.exec = Jvm.exec) (hb : c.code = cc) (hX : va_X bS L xs s s.heap) (hbl : bS < s.heap.size) (hG : zh_G D K s.heap.size N h s.heap H locs) (hg : zS L xs i = some v) (hdg : decode cc pc = .ok (.iaload, 1))
    (kk : W p l e R s m args below meth c H locs cells slots Q (F0 m (pc + 1) ls (.int v :: rest))) : W p l e R s m args below meth c H locs cells slots Q (F0 m pc ls (.int i :: .ref bS :: rest)) := by
  obtain ⟨hin, rfl⟩ := zS_s hg
  exact va_sld hx hb hX hbl (Nat.not_le.mpr hbl) hG.2 hin hdg kk
theorem zr_slen (hx : p.tables.exec = Jvm.exec) (hb : c.code = cc) (hX : va_X bS L xs s s.heap) (hbl : bS < s.heap.size) (hG : zh_G D K s.heap.size N h s.heap H locs) (hdg : decode cc pc = .ok (.arraylength, 1))
    (kk : W p l e R s m args below meth c H locs cells slots Q (F0 m (pc + 1) ls (.int (nI L) :: rest))) : W p l e R s m args below meth c H locs cells slots Q (F0 m pc ls (.ref bS :: rest)) :=
  va_slen hx hb hX hbl (Nat.not_le.mpr hbl) hG.2 hdg kk
end ZL
def b_L_law_925 (L : Nat) (xs : Nat → Int32) (k18 : Nat → Nat → Nat → zh_H → Nat → Nat → Int32 → Option Int32) (N cs sl : Nat) (h : zh_H) (x1 : Nat) (x2 : Nat) (x3 : Int32) : Option Int32 := k18 N cs sl h (x1) (x2) ((x3 + (7 : Int32)))

def b_L_law_422 (L : Nat) (xs : Nat → Int32) (k18 : Nat → Nat → Nat → zh_H → Nat → Nat → Int32 → Option Int32) (N cs sl : Nat) (h : zh_H) (x1 : Nat) (x2 : Nat) (x3 : Int32) (y0 : Int32) (y1 : Int32) (y2 : Int32) (y3 : Nat) (y4 : Int32) : Option Int32 := (isO h y3 11).bind fun o1 => zif (cs ≤ 600000 ∧ sl ≤ 7302250) <| zbp (b_X11_find_0 h y3 y2 y1 y0) fun v3 h2 => if y4 = v3 then b_L_law_925 L xs k18 N cs sl h2 (x1) (x2) (x3) else some (0 : Int32)

def b_L_law_395 (L : Nat) (xs : Nat → Int32) (k18 : Nat → Nat → Nat → zh_H → Nat → Nat → Int32 → Option Int32) (N cs sl : Nat) (h : zh_H) (x1 : Nat) (x2 : Nat) (x3 : Int32) (y0 : Int32) (y1 : Int32) (y2 : Int32) (y3 : Nat) : Option Int32 := (isO h y3 10).bind fun o1 => zif (cs ≤ 600000 ∧ sl ≤ 7302250) <| zbp (b_X10_find_0 h y3 y2 y1 y0) fun v3 h2 => (zS L xs (x3 + (1 : Int32))).bind fun v4 => (zS L xs (x3 + (2 : Int32))).bind fun v5 => (zS L xs (x3 + (3 : Int32))).bind fun v6 => if v6 = (0 : Int32) then b_L_law_422 L xs k18 N cs sl h2 (x1) (x2) (x3) ((0 : Int32)) (v5) (v4) (x2) (v3) else b_L_law_422 L xs k18 N cs sl h2 (x1) (x2) (x3) ((1 : Int32)) (v5) (v4) (x2) (v3)

def b_L_law_542 (L : Nat) (xs : Nat → Int32) (k18 : Nat → Nat → Nat → zh_H → Nat → Nat → Int32 → Option Int32) (N cs sl : Nat) (h : zh_H) (x1 : Nat) (x2 : Nat) (x3 : Int32) (y0 : Int32) (y1 : Int32) (y2 : Nat) (y3 : Int32) : Option Int32 := (zS L xs (x3 + (3 : Int32))).bind fun v1 => (isO h y2 11).bind fun o2 => zif (cs ≤ 600000 ∧ sl ≤ 7302250) <| zbp (b_X11_nearest_0 h y2 y1 y0 v1) fun v4 h3 => if y3 = v4 then b_L_law_925 L xs k18 N cs sl h3 (x1) (x2) (x3) else some (0 : Int32)

def b_L_law_515 (L : Nat) (xs : Nat → Int32) (k18 : Nat → Nat → Nat → zh_H → Nat → Nat → Int32 → Option Int32) (N cs sl : Nat) (h : zh_H) (x1 : Nat) (x2 : Nat) (x3 : Int32) (y0 : Int32) (y1 : Int32) (y2 : Nat) : Option Int32 := (zS L xs (x3 + (3 : Int32))).bind fun v1 => (isO h y2 10).bind fun o2 => zif (cs ≤ 600000 ∧ sl ≤ 7302250) <| zbp (b_X10_nearest_0 h y2 y1 y0 v1) fun v4 h3 => (zS L xs (x3 + (1 : Int32))).bind fun v5 => (zS L xs (x3 + (2 : Int32))).bind fun v6 => if v6 = (0 : Int32) then b_L_law_542 L xs k18 N cs sl h3 (x1) (x2) (x3) ((0 : Int32)) (v5) (x2) (v4) else b_L_law_542 L xs k18 N cs sl h3 (x1) (x2) (x3) ((1 : Int32)) (v5) (x2) (v4)

def b_L_law_606 (L : Nat) (xs : Nat → Int32) (k18 : Nat → Nat → Nat → zh_H → Nat → Nat → Int32 → Option Int32) (N cs sl : Nat) (h : zh_H) (x1 : Nat) (x2 : Nat) (x3 : Int32) (y0 : Int32) (y1 : Int32) (y2 : Int32) (y3 : Nat) (y4 : Int32) : Option Int32 := (isO h y3 11).bind fun o1 => zif (cs ≤ 600000 ∧ sl ≤ 7302250) <| zbp (b_X11_lines_0 h y3 y2 y1 y0) fun v3 h2 => if y4 = v3 then b_L_law_925 L xs k18 N cs sl h2 (x1) (x2) (x3) else some (0 : Int32)

def b_L_law_579 (L : Nat) (xs : Nat → Int32) (k18 : Nat → Nat → Nat → zh_H → Nat → Nat → Int32 → Option Int32) (N cs sl : Nat) (h : zh_H) (x1 : Nat) (x2 : Nat) (x3 : Int32) (y0 : Int32) (y1 : Int32) (y2 : Int32) (y3 : Nat) : Option Int32 := (isO h y3 10).bind fun o1 => zif (cs ≤ 600000 ∧ sl ≤ 7302250) <| zbp (b_X10_lines_0 h y3 y2 y1 y0) fun v3 h2 => (zS L xs (x3 + (1 : Int32))).bind fun v4 => (zS L xs (x3 + (2 : Int32))).bind fun v5 => (zS L xs (x3 + (3 : Int32))).bind fun v6 => if v6 = (0 : Int32) then b_L_law_606 L xs k18 N cs sl h2 (x1) (x2) (x3) ((0 : Int32)) (v5) (v4) (x2) (v3) else b_L_law_606 L xs k18 N cs sl h2 (x1) (x2) (x3) ((1 : Int32)) (v5) (v4) (x2) (v3)

def b_L_law_688 (L : Nat) (xs : Nat → Int32) (k18 : Nat → Nat → Nat → zh_H → Nat → Nat → Int32 → Option Int32) (N cs sl : Nat) (h : zh_H) (x1 : Nat) (x2 : Nat) (x3 : Int32) (y0 : Int32) (y1 : Int32) (y2 : Int32) (y3 : Nat) (y4 : Int32) : Option Int32 := (isO h y3 11).bind fun o1 => zif (cs ≤ 600000 ∧ sl ≤ 7302250) <| zbp (b_X11_replace_0 h y3 y2 y1 y0) fun v3 h2 => if y4 = v3 then b_L_law_925 L xs k18 N cs sl h2 (x1) (x2) (x3) else some (0 : Int32)

def b_L_law_661 (L : Nat) (xs : Nat → Int32) (k18 : Nat → Nat → Nat → zh_H → Nat → Nat → Int32 → Option Int32) (N cs sl : Nat) (h : zh_H) (x1 : Nat) (x2 : Nat) (x3 : Int32) (y0 : Int32) (y1 : Int32) (y2 : Int32) (y3 : Nat) : Option Int32 := (isO h y3 10).bind fun o1 => zif (cs ≤ 600000 ∧ sl ≤ 7302250) <| zbp (b_X10_replace_0 h y3 y2 y1 y0) fun v3 h2 => (zS L xs (x3 + (1 : Int32))).bind fun v4 => (zS L xs (x3 + (2 : Int32))).bind fun v5 => (zS L xs (x3 + (3 : Int32))).bind fun v6 => if v6 = (0 : Int32) then b_L_law_688 L xs k18 N cs sl h2 (x1) (x2) (x3) ((0 : Int32)) (v5) (v4) (x2) (v3) else b_L_law_688 L xs k18 N cs sl h2 (x1) (x2) (x3) ((1 : Int32)) (v5) (v4) (x2) (v3)

def b_L_law_762 (L : Nat) (xs : Nat → Int32) (k18 : Nat → Nat → Nat → zh_H → Nat → Nat → Int32 → Option Int32) (N cs sl : Nat) (h : zh_H) (x1 : Nat) (x2 : Nat) (x3 : Int32) (y0 : Int32) (y1 : Int32) (y2 : Int32) (y3 : Int32) (y4 : Nat) (y5 : Int32) : Option Int32 := (zS L xs (x3 + (5 : Int32))).bind fun v1 => (isO h y4 11).bind fun o2 => zif (cs ≤ 600000 ∧ sl ≤ 7302250) <| zbp (b_X11_whole_0 h y4 y3 y2 y1 y0 v1) fun v4 h3 => if y5 = v4 then b_L_law_925 L xs k18 N cs sl h3 (x1) (x2) (x3) else some (0 : Int32)

def b_L_law_725 (L : Nat) (xs : Nat → Int32) (k18 : Nat → Nat → Nat → zh_H → Nat → Nat → Int32 → Option Int32) (N cs sl : Nat) (h : zh_H) (x1 : Nat) (x2 : Nat) (x3 : Int32) (y0 : Int32) (y1 : Int32) (y2 : Int32) (y3 : Int32) (y4 : Nat) : Option Int32 := (zS L xs (x3 + (5 : Int32))).bind fun v1 => (isO h y4 10).bind fun o2 => zif (cs ≤ 600000 ∧ sl ≤ 7302250) <| zbp (b_X10_whole_0 h y4 y3 y2 y1 y0 v1) fun v4 h3 => (zS L xs (x3 + (1 : Int32))).bind fun v5 => (zS L xs (x3 + (2 : Int32))).bind fun v6 => (zS L xs (x3 + (3 : Int32))).bind fun v7 => (zS L xs (x3 + (4 : Int32))).bind fun v8 => if v8 = (0 : Int32) then b_L_law_762 L xs k18 N cs sl h3 (x1) (x2) (x3) ((0 : Int32)) (v7) (v6) (v5) (x2) (v4) else b_L_law_762 L xs k18 N cs sl h3 (x1) (x2) (x3) ((1 : Int32)) (v7) (v6) (v5) (x2) (v4)

def b_L_law_826 (L : Nat) (xs : Nat → Int32) (k18 : Nat → Nat → Nat → zh_H → Nat → Nat → Int32 → Option Int32) (N cs sl : Nat) (h : zh_H) (x1 : Nat) (x2 : Nat) (x3 : Int32) (y0 : Int32) (y1 : Int32) (y2 : Int32) (y3 : Nat) (y4 : Int32) : Option Int32 := (isO h y3 11).bind fun o1 => zif (cs ≤ 600000 ∧ sl ≤ 7302250) <| zbp (b_X11_which_0 h y3 y2 y1 y0) fun v3 h2 => if y4 = v3 then b_L_law_925 L xs k18 N cs sl h2 (x1) (x2) (x3) else some (0 : Int32)

def b_L_law_799 (L : Nat) (xs : Nat → Int32) (k18 : Nat → Nat → Nat → zh_H → Nat → Nat → Int32 → Option Int32) (N cs sl : Nat) (h : zh_H) (x1 : Nat) (x2 : Nat) (x3 : Int32) (y0 : Int32) (y1 : Int32) (y2 : Int32) (y3 : Nat) : Option Int32 := (isO h y3 10).bind fun o1 => zif (cs ≤ 600000 ∧ sl ≤ 7302250) <| zbp (b_X10_which_0 h y3 y2 y1 y0) fun v3 h2 => (zS L xs (x3 + (1 : Int32))).bind fun v4 => (zS L xs (x3 + (2 : Int32))).bind fun v5 => (zS L xs (x3 + (3 : Int32))).bind fun v6 => if v6 = (0 : Int32) then b_L_law_826 L xs k18 N cs sl h2 (x1) (x2) (x3) ((0 : Int32)) (v5) (v4) (x2) (v3) else b_L_law_826 L xs k18 N cs sl h2 (x1) (x2) (x3) ((1 : Int32)) (v5) (v4) (x2) (v3)

def b_L_law_911 (L : Nat) (xs : Nat → Int32) (k18 : Nat → Nat → Nat → zh_H → Nat → Nat → Int32 → Option Int32) (N cs sl : Nat) (h : zh_H) (x1 : Nat) (x2 : Nat) (x3 : Int32) (y0 : Int32) (y1 : Int32) (y2 : Int32) (y3 : Int32) (y4 : Int32) (y5 : Nat) (y6 : Int32) : Option Int32 := (zS L xs (x3 + (6 : Int32))).bind fun v1 => (isO h y5 11).bind fun o2 => zif (cs ≤ 600000 ∧ sl ≤ 7302250) <| zbp (b_X11_apart_0 h y5 y4 y3 y2 y1 y0 v1) fun v4 h3 => if y6 = v4 then b_L_law_925 L xs k18 N cs sl h3 (x1) (x2) (x3) else some (0 : Int32)

def b_L_law_868 (L : Nat) (xs : Nat → Int32) (k18 : Nat → Nat → Nat → zh_H → Nat → Nat → Int32 → Option Int32) (N cs sl : Nat) (h : zh_H) (x1 : Nat) (x2 : Nat) (x3 : Int32) (y0 : Int32) (y1 : Int32) (y2 : Int32) (y3 : Int32) (y4 : Int32) (y5 : Nat) : Option Int32 := (zS L xs (x3 + (6 : Int32))).bind fun v1 => (isO h y5 10).bind fun o2 => zif (cs ≤ 600000 ∧ sl ≤ 7302250) <| zbp (b_X10_apart_0 h y5 y4 y3 y2 y1 y0 v1) fun v4 h3 => (zS L xs (x3 + (1 : Int32))).bind fun v5 => (zS L xs (x3 + (2 : Int32))).bind fun v6 => (zS L xs (x3 + (3 : Int32))).bind fun v7 => (zS L xs (x3 + (4 : Int32))).bind fun v8 => (zS L xs (x3 + (5 : Int32))).bind fun v9 => if v9 = (0 : Int32) then b_L_law_911 L xs k18 N cs sl h3 (x1) (x2) (x3) ((0 : Int32)) (v8) (v7) (v6) (v5) (x2) (v4) else b_L_law_911 L xs k18 N cs sl h3 (x1) (x2) (x3) ((1 : Int32)) (v8) (v7) (v6) (v5) (x2) (v4)

def b_L_law_18 (L : Nat) (xs : Nat → Int32) : Nat → Nat → Nat → Nat → zh_H → Nat → Nat → Int32 → Option Int32
  | 0 => fun _ _ _ _ _ _ _ => none
  | n + 1 => fun N cs sl h x1 x2 x3 => if ((nI L) - (7 : Int32)) < x3 then zif (cs ≤ 600000 ∧ sl ≤ 7302250) (some (1 : Int32)) else (zS L xs x3).bind fun v1 => if (v1 &&& (31 : Int32)) = (0 : Int32) then (zS L xs (x3 + (1 : Int32))).bind fun v3 => (zS L xs (x3 + (2 : Int32))).bind fun v4 => (zS L xs (x3 + (3 : Int32))).bind fun v5 => (isO h x1 10).bind fun o6 => zif (cs ≤ 600000 ∧ sl ≤ 7302250) <| zbp (b_X10_type_0 h x1 ((((Int32.toInt64 v3) <<< (Int32.toInt64 (32 : Int32) &&& 63))) ||| ((Int32.toInt64 v4) &&& (4294967295 : Int64))) v5) fun v8 h7 => (zS L xs (x3 + (1 : Int32))).bind fun v9 => (zS L xs (x3 + (2 : Int32))).bind fun v10 => (zS L xs (x3 + (3 : Int32))).bind fun v11 => (isO h7 x2 11).bind fun o12 => zif (cs ≤ 600000 ∧ sl ≤ 7302250) <| zbp (b_X11_type_0 h7 x2 ((((Int32.toInt64 v9) <<< (Int32.toInt64 (32 : Int32) &&& 63))) ||| ((Int32.toInt64 v10) &&& (4294967295 : Int64))) v11) fun v14 h13 => if v8 = v14 then b_L_law_925 L xs (b_L_law_18 L xs n) N cs sl h13 (x1) (x2) (x3) else some (0 : Int32) else if (v1 &&& (31 : Int32)) = (1 : Int32) then (zS L xs (x3 + (1 : Int32))).bind fun v16 => (isO h x1 10).bind fun o17 => zif (cs ≤ 600000 ∧ sl ≤ 7302250) <| zbp (b_X10_pattern_0 h x1 v16) fun v19 h18 => (zS L xs (x3 + (1 : Int32))).bind fun v20 => (isO h18 x2 11).bind fun o21 => zif (cs ≤ 600000 ∧ sl ≤ 7302250) <| zbp (b_X11_pattern_0 h18 x2 v20) fun v23 h22 => if v19 = v23 then b_L_law_925 L xs (b_L_law_18 L xs n) N cs sl h22 (x1) (x2) (x3) else some (0 : Int32) else if (v1 &&& (31 : Int32)) = (2 : Int32) then (isO h x1 10).bind fun o25 => zif (cs ≤ 600000 ∧ sl ≤ 7302250) <| zbp (b_X10_place_0 h x1 ) fun v27 h26 => (isO h26 x2 11).bind fun o28 => zif (cs ≤ 600000 ∧ sl ≤ 7302250) <| zbp (b_X11_place_0 h26 x2 ) fun v30 h29 => if v27 = v30 then b_L_law_925 L xs (b_L_law_18 L xs n) N cs sl h29 (x1) (x2) (x3) else some (0 : Int32) else if (v1 &&& (31 : Int32)) = (3 : Int32) then (zS L xs (x3 + (1 : Int32))).bind fun v32 => (zS L xs (x3 + (2 : Int32))).bind fun v33 => (zS L xs (x3 + (3 : Int32))).bind fun v34 => (isO h x1 10).bind fun o35 => zif (cs ≤ 600000 ∧ sl ≤ 7302250) <| zbp (b_X10_has_0 h x1 v32 v33 v34) fun v37 h36 => (zS L xs (x3 + (1 : Int32))).bind fun v38 => (zS L xs (x3 + (2 : Int32))).bind fun v39 => (zS L xs (x3 + (3 : Int32))).bind fun v40 => (isO h36 x2 11).bind fun o41 => zif (cs ≤ 600000 ∧ sl ≤ 7302250) <| zbp (b_X11_has_0 h36 x2 v38 v39 v40) fun v43 h42 => if v37 = v43 then b_L_law_925 L xs (b_L_law_18 L xs n) N cs sl h42 (x1) (x2) (x3) else some (0 : Int32) else if (v1 &&& (31 : Int32)) = (4 : Int32) then (zS L xs (x3 + (1 : Int32))).bind fun v45 => (isO h x1 10).bind fun o46 => zif (cs ≤ 600000 ∧ sl ≤ 7302250) <| zbp (b_X10_insert_0 h x1 v45) fun v48 h47 => (zS L xs (x3 + (1 : Int32))).bind fun v49 => (isO h47 x2 11).bind fun o50 => zif (cs ≤ 600000 ∧ sl ≤ 7302250) <| zbp (b_X11_insert_0 h47 x2 v49) fun v52 h51 => if v48 = v52 then b_L_law_925 L xs (b_L_law_18 L xs n) N cs sl h51 (x1) (x2) (x3) else some (0 : Int32) else if (v1 &&& (31 : Int32)) = (5 : Int32) then (zS L xs (x3 + (1 : Int32))).bind fun v54 => (zS L xs (x3 + (2 : Int32))).bind fun v55 => (isO h x1 10).bind fun o56 => zif (cs ≤ 600000 ∧ sl ≤ 7302250) <| zbp (b_X10_cut_0 h x1 v54 v55) fun v58 h57 => (zS L xs (x3 + (1 : Int32))).bind fun v59 => (zS L xs (x3 + (2 : Int32))).bind fun v60 => (isO h57 x2 11).bind fun o61 => zif (cs ≤ 600000 ∧ sl ≤ 7302250) <| zbp (b_X11_cut_0 h57 x2 v59 v60) fun v63 h62 => if v58 = v63 then b_L_law_925 L xs (b_L_law_18 L xs n) N cs sl h62 (x1) (x2) (x3) else some (0 : Int32) else if (v1 &&& (31 : Int32)) = (6 : Int32) then (isO h x1 10).bind fun o65 => zif (cs ≤ 600000 ∧ sl ≤ 7302250) <| zbp (b_X10_undo_0 h x1 ) fun v67 h66 => (isO h66 x2 11).bind fun o68 => zif (cs ≤ 600000 ∧ sl ≤ 7302250) <| zbp (b_X11_undo_0 h66 x2 ) fun v70 h69 => if v67 = v70 then b_L_law_925 L xs (b_L_law_18 L xs n) N cs sl h69 (x1) (x2) (x3) else some (0 : Int32) else if (v1 &&& (31 : Int32)) = (7 : Int32) then (zS L xs (x3 + (1 : Int32))).bind fun v72 => (isO h x1 10).bind fun o73 => zif (cs ≤ 600000 ∧ sl ≤ 7302250) <| zbp (b_X10_byteAt_0 h x1 v72) fun v75 h74 => (zS L xs (x3 + (1 : Int32))).bind fun v76 => (isO h74 x2 11).bind fun o77 => zif (cs ≤ 600000 ∧ sl ≤ 7302250) <| zbp (b_X11_byteAt_0 h74 x2 v76) fun v79 h78 => if v75 = v79 then b_L_law_925 L xs (b_L_law_18 L xs n) N cs sl h78 (x1) (x2) (x3) else some (0 : Int32) else if (v1 &&& (31 : Int32)) = (8 : Int32) then (isO h x1 10).bind fun o81 => zif (cs ≤ 600000 ∧ sl ≤ 7302250) <| zbp (b_X10_length_0 h x1 ) fun v83 h82 => (isO h82 x2 11).bind fun o84 => zif (cs ≤ 600000 ∧ sl ≤ 7302250) <| zbp (b_X11_length_0 h82 x2 ) fun v86 h85 => if v83 = v86 then b_L_law_925 L xs (b_L_law_18 L xs n) N cs sl h85 (x1) (x2) (x3) else some (0 : Int32) else if (v1 &&& (31 : Int32)) = (9 : Int32) then (zS L xs (x3 + (1 : Int32))).bind fun v88 => (zS L xs (x3 + (2 : Int32))).bind fun v89 => (zS L xs (x3 + (3 : Int32))).bind fun v90 => if v90 = (0 : Int32) then b_L_law_395 L xs (b_L_law_18 L xs n) N cs sl h (x1) (x2) (x3) ((0 : Int32)) (v89) (v88) (x1) else b_L_law_395 L xs (b_L_law_18 L xs n) N cs sl h (x1) (x2) (x3) ((1 : Int32)) (v89) (v88) (x1) else if (v1 &&& (31 : Int32)) = (10 : Int32) then (zS L xs (x3 + (1 : Int32))).bind fun v92 => (zS L xs (x3 + (2 : Int32))).bind fun v93 => (isO h x1 10).bind fun o94 => zif (cs ≤ 600000 ∧ sl ≤ 7302250) <| zbp (b_X10_hit_0 h x1 v92 v93) fun v96 h95 => (zS L xs (x3 + (1 : Int32))).bind fun v97 => (zS L xs (x3 + (2 : Int32))).bind fun v98 => (isO h95 x2 11).bind fun o99 => zif (cs ≤ 600000 ∧ sl ≤ 7302250) <| zbp (b_X11_hit_0 h95 x2 v97 v98) fun v101 h100 => if v96 = v101 then b_L_law_925 L xs (b_L_law_18 L xs n) N cs sl h100 (x1) (x2) (x3) else some (0 : Int32) else if (v1 &&& (31 : Int32)) = (11 : Int32) then (zS L xs (x3 + (1 : Int32))).bind fun v103 => (zS L xs (x3 + (2 : Int32))).bind fun v104 => (isO h x1 10).bind fun o105 => zif (cs ≤ 600000 ∧ sl ≤ 7302250) <| zbp (b_X10_step_0 h x1 v103 v104) fun v107 h106 => (zS L xs (x3 + (1 : Int32))).bind fun v108 => (zS L xs (x3 + (2 : Int32))).bind fun v109 => (isO h106 x2 11).bind fun o110 => zif (cs ≤ 600000 ∧ sl ≤ 7302250) <| zbp (b_X11_step_0 h106 x2 v108 v109) fun v112 h111 => if v107 = v112 then b_L_law_925 L xs (b_L_law_18 L xs n) N cs sl h111 (x1) (x2) (x3) else some (0 : Int32) else if (v1 &&& (31 : Int32)) = (12 : Int32) then (zS L xs (x3 + (1 : Int32))).bind fun v114 => (zS L xs (x3 + (2 : Int32))).bind fun v115 => if v115 = (0 : Int32) then b_L_law_515 L xs (b_L_law_18 L xs n) N cs sl h (x1) (x2) (x3) ((0 : Int32)) (v114) (x1) else b_L_law_515 L xs (b_L_law_18 L xs n) N cs sl h (x1) (x2) (x3) ((1 : Int32)) (v114) (x1) else if (v1 &&& (31 : Int32)) = (13 : Int32) then (zS L xs (x3 + (1 : Int32))).bind fun v117 => (zS L xs (x3 + (2 : Int32))).bind fun v118 => (zS L xs (x3 + (3 : Int32))).bind fun v119 => if v119 = (0 : Int32) then b_L_law_579 L xs (b_L_law_18 L xs n) N cs sl h (x1) (x2) (x3) ((0 : Int32)) (v118) (v117) (x1) else b_L_law_579 L xs (b_L_law_18 L xs n) N cs sl h (x1) (x2) (x3) ((1 : Int32)) (v118) (v117) (x1) else if (v1 &&& (31 : Int32)) = (14 : Int32) then (zS L xs (x3 + (1 : Int32))).bind fun v121 => (isO h x1 10).bind fun o122 => zif (cs ≤ 600000 ∧ sl ≤ 7302250) <| zbp (b_X10_line_0 h x1 v121) fun v124 h123 => (zS L xs (x3 + (1 : Int32))).bind fun v125 => (isO h123 x2 11).bind fun o126 => zif (cs ≤ 600000 ∧ sl ≤ 7302250) <| zbp (b_X11_line_0 h123 x2 v125) fun v128 h127 => if v124 = v128 then b_L_law_925 L xs (b_L_law_18 L xs n) N cs sl h127 (x1) (x2) (x3) else some (0 : Int32) else if (v1 &&& (31 : Int32)) = (15 : Int32) then (zS L xs (x3 + (1 : Int32))).bind fun v130 => (zS L xs (x3 + (2 : Int32))).bind fun v131 => (zS L xs (x3 + (3 : Int32))).bind fun v132 => if v132 = (0 : Int32) then b_L_law_661 L xs (b_L_law_18 L xs n) N cs sl h (x1) (x2) (x3) ((0 : Int32)) (v131) (v130) (x1) else b_L_law_661 L xs (b_L_law_18 L xs n) N cs sl h (x1) (x2) (x3) ((1 : Int32)) (v131) (v130) (x1) else if (v1 &&& (31 : Int32)) = (16 : Int32) then (zS L xs (x3 + (1 : Int32))).bind fun v134 => (zS L xs (x3 + (2 : Int32))).bind fun v135 => (zS L xs (x3 + (3 : Int32))).bind fun v136 => (zS L xs (x3 + (4 : Int32))).bind fun v137 => if v137 = (0 : Int32) then b_L_law_725 L xs (b_L_law_18 L xs n) N cs sl h (x1) (x2) (x3) ((0 : Int32)) (v136) (v135) (v134) (x1) else b_L_law_725 L xs (b_L_law_18 L xs n) N cs sl h (x1) (x2) (x3) ((1 : Int32)) (v136) (v135) (v134) (x1) else if (v1 &&& (31 : Int32)) = (17 : Int32) then (zS L xs (x3 + (1 : Int32))).bind fun v139 => (zS L xs (x3 + (2 : Int32))).bind fun v140 => (zS L xs (x3 + (3 : Int32))).bind fun v141 => if v141 = (0 : Int32) then b_L_law_799 L xs (b_L_law_18 L xs n) N cs sl h (x1) (x2) (x3) ((0 : Int32)) (v140) (v139) (x1) else b_L_law_799 L xs (b_L_law_18 L xs n) N cs sl h (x1) (x2) (x3) ((1 : Int32)) (v140) (v139) (x1) else if (v1 &&& (31 : Int32)) = (18 : Int32) then (zS L xs (x3 + (1 : Int32))).bind fun v143 => (zS L xs (x3 + (2 : Int32))).bind fun v144 => (zS L xs (x3 + (3 : Int32))).bind fun v145 => (zS L xs (x3 + (4 : Int32))).bind fun v146 => (zS L xs (x3 + (5 : Int32))).bind fun v147 => if v147 = (0 : Int32) then b_L_law_868 L xs (b_L_law_18 L xs n) N cs sl h (x1) (x2) (x3) ((0 : Int32)) (v146) (v145) (v144) (v143) (x1) else b_L_law_868 L xs (b_L_law_18 L xs n) N cs sl h (x1) (x2) (x3) ((1 : Int32)) (v146) (v145) (v144) (v143) (x1) else b_L_law_925 L xs (b_L_law_18 L xs n) N cs sl h (x1) (x2) (x3)

def b_L_law_0 (L : Nat) (xs : Nat → Int32) (N cs sl : Nat) (h : zh_H) : Option Int32 := zif (cs + 1 ≤ 600000 ∧ sl + 11 ≤ 7302250) (zif ((cs + 1) + 83 ≤ 600000 ∧ (sl + 11) + 71422 ≤ 7302250) (zbp (b_X10_init_0 (N + 1) 0 0 (zh_up h N (.inr (10, [.null, .null, .null, .null, .null, .null, .null, .null, .null, .null, .null]))) N ) fun N2 h3 => zif (((cs + 1) + 83) + 1 ≤ 600000 ∧ ((sl + 11) + 71422) + 46 ≤ 7302250) (zif ((((cs + 1) + 83) + 1) + 28 ≤ 600000 ∧ (((sl + 11) + 71422) + 46) + 117322 ≤ 7302250) (zbp (b_X11_init_0 (N2 + 1) 0 0 (zh_up h3 N2 (.inr (11, [.null, .int 0, .null, .int 0, .null, .null, .int 0, .null, .null, .null, .int 0, .int 0, .int 0, .int 0, .null, .null, .int 0, .long 0, .long 0, .null, .null, .int 0, .null, .int 0, .int 0, .null, .null, .null, .null, .null, .null, .int 0, .null, .null, .null, .null, .null, .null, .int 0, .int 0, .null, .null, .int 0, .null, .int 0, .null]))) N2 ) fun N5 h6 => b_L_law_18 L xs zFuel N5 ((((cs + 1) + 83) + 1) + 28) ((((sl + 11) + 71422) + 46) + 117322) h6 (N) (N2) ((0 : Int32))))))
section G_law
variable {p : Program} {l : Launch} {e : Env} {s : State} {m : MethodId} {below : List Frame} {meth : Method} {c : Code} {D : va_G} {K : Nat → ClassId} {bS : Nat}
set_option maxRecDepth 100000 in
set_option maxHeartbeats 4000000 in
theorem w_L_law_925 {L : Nat} {xs : Nat → Int32} (hB : zc_B p s m #[Value.ref bS] meth c cL_law 4 RL ret D K) (hX : va_X bS L xs s s.heap) (hbl : bS < s.heap.size) {k18 : Nat → Nat → Nat → zh_H → Nat → Nat → Int32 → Option Int32} (hk18 : ∀ (H : Heap) (locs : List Loc) (ls : Array Slot) (N cs sl : Nat) (h : zh_H) (x1 : Nat) (x2 : Nat) (x3 : Int32), zh_G D K s.heap.size N h s.heap H locs → lv_has ls 4 [(0, .ref bS), (1, .ref x1), (2, .ref x2), (3, .int x3)] → k18 N cs sl h x1 x2 x3 = some 1 → W p l e room_1 s m #[Value.ref bS] below meth c H locs cs sl (lw_Z below #[Value.ref bS] s) (F0 m 18 ls [])) : ∀ (H : Heap) (locs : List Loc) (ls : Array Slot) (N cs sl : Nat) (h : zh_H) (x1 : Nat) (x2 : Nat) (x3 : Int32), zh_G D K s.heap.size N h s.heap H locs → lv_has ls 4 [(0, .ref bS), (1, .ref x1), (2, .ref x2), (3, .int x3)] → b_L_law_925 L xs k18 N cs sl h x1 x2 x3 = some 1 → W p l e room_1 s m #[Value.ref bS] below meth c H locs cs sl (lw_Z below #[Value.ref bS] s) (F0 m 925 ls []) := by
  have hx := hB.1
  have hb := hB.2.1
  intro H locs ls N cs sl h x1 x2 x3 hG hl hf
  unfold b_L_law_925 at hf
  refine lv_iinc (v := (x3 + (7 : Int32))) (lv' := [(3, .int (x3 + (7 : Int32))), (0, .ref bS), (1, .ref x1), (2, .ref x2)]) hx hb dL_law_925 hl (k := 3) rfl rfl (by decide) rfl (fun ls hl => ?_)
  refine lv_goto (tgt := 18) hx hb dL_law_928 (by decide) ?_
  exact hk18 _ _ _ N cs sl h (x1) (x2) ((x3 + (7 : Int32))) hG (lv_sub hl [1, 2, 3, 0] rfl) hf

set_option maxRecDepth 100000 in
set_option maxHeartbeats 4000000 in
theorem w_L_law_422 {L : Nat} {xs : Nat → Int32} (hB : zc_B p s m #[Value.ref bS] meth c cL_law 4 RL ret D K) (hX : va_X bS L xs s s.heap) (hbl : bS < s.heap.size) {k18 : Nat → Nat → Nat → zh_H → Nat → Nat → Int32 → Option Int32} (hk18 : ∀ (H : Heap) (locs : List Loc) (ls : Array Slot) (N cs sl : Nat) (h : zh_H) (x1 : Nat) (x2 : Nat) (x3 : Int32), zh_G D K s.heap.size N h s.heap H locs → lv_has ls 4 [(0, .ref bS), (1, .ref x1), (2, .ref x2), (3, .int x3)] → k18 N cs sl h x1 x2 x3 = some 1 → W p l e room_1 s m #[Value.ref bS] below meth c H locs cs sl (lw_Z below #[Value.ref bS] s) (F0 m 18 ls [])) : ∀ (H : Heap) (locs : List Loc) (ls : Array Slot) (N cs sl : Nat) (h : zh_H) (x1 : Nat) (x2 : Nat) (x3 : Int32) (y0 : Int32) (y1 : Int32) (y2 : Int32) (y3 : Nat) (y4 : Int32), zh_G D K s.heap.size N h s.heap H locs → lv_has ls 4 [(0, .ref bS), (1, .ref x1), (2, .ref x2), (3, .int x3)] → b_L_law_422 L xs k18 N cs sl h x1 x2 x3 y0 y1 y2 y3 y4 = some 1 → W p l e room_1 s m #[Value.ref bS] below meth c H locs cs sl (lw_Z below #[Value.ref bS] s) (F0 m 422 ls [.int y0, .int y1, .int y2, .ref y3, .int y4]) := by
  have hx := hB.1
  have hb := hB.2.1
  intro H locs ls N cs sl h x1 x2 x3 y0 y1 y2 y3 y4 hG hl hf
  unfold b_L_law_422 at hf
  obtain ⟨o1, eo1, hf⟩ := zb hf
  obtain ⟨hz, hf⟩ := zif_s hf
  obtain ⟨v3, h2, eh2, hf⟩ := zbp_s hf
  refine zr_callV (As := [.int y2, .int y1, .int y0]) kc_L_60 hB hG (c_X11_find eh2) eo1 rfl hl.1 rfl ⟨by decide, by decide⟩ (Nat.le_of_ble_eq_true rfl) hz dL_law_422 (fun H locs hG => ?_)
  refine lv_icmp_eq (tgt := 925) hx hb dL_law_425 (by decide) (fun hc4 => ?_) (fun hc4 => ?_)
  · rw [if_pos hc4] at hf
    exact w_L_law_925 hB hX hbl hk18 _ _ _ N cs sl h2 (x1) (x2) (x3) hG (lv_sub hl [0, 1, 2, 3] rfl) hf
  · rw [if_neg hc4] at hf
    refine lv_iconst (v := 0) hx hb dL_law_428 (by decide) ?_
    exact absurd (Option.some.inj hf) (by decide)

set_option maxRecDepth 100000 in
set_option maxHeartbeats 4000000 in
theorem w_L_law_395 {L : Nat} {xs : Nat → Int32} (hB : zc_B p s m #[Value.ref bS] meth c cL_law 4 RL ret D K) (hX : va_X bS L xs s s.heap) (hbl : bS < s.heap.size) {k18 : Nat → Nat → Nat → zh_H → Nat → Nat → Int32 → Option Int32} (hk18 : ∀ (H : Heap) (locs : List Loc) (ls : Array Slot) (N cs sl : Nat) (h : zh_H) (x1 : Nat) (x2 : Nat) (x3 : Int32), zh_G D K s.heap.size N h s.heap H locs → lv_has ls 4 [(0, .ref bS), (1, .ref x1), (2, .ref x2), (3, .int x3)] → k18 N cs sl h x1 x2 x3 = some 1 → W p l e room_1 s m #[Value.ref bS] below meth c H locs cs sl (lw_Z below #[Value.ref bS] s) (F0 m 18 ls [])) : ∀ (H : Heap) (locs : List Loc) (ls : Array Slot) (N cs sl : Nat) (h : zh_H) (x1 : Nat) (x2 : Nat) (x3 : Int32) (y0 : Int32) (y1 : Int32) (y2 : Int32) (y3 : Nat), zh_G D K s.heap.size N h s.heap H locs → lv_has ls 4 [(0, .ref bS), (1, .ref x1), (2, .ref x2), (3, .int x3)] → b_L_law_395 L xs k18 N cs sl h x1 x2 x3 y0 y1 y2 y3 = some 1 → W p l e room_1 s m #[Value.ref bS] below meth c H locs cs sl (lw_Z below #[Value.ref bS] s) (F0 m 395 ls [.int y0, .int y1, .int y2, .ref y3]) := by
  have hx := hB.1
  have hb := hB.2.1
  intro H locs ls N cs sl h x1 x2 x3 y0 y1 y2 y3 hG hl hf
  unfold b_L_law_395 at hf
  obtain ⟨o1, eo1, hf⟩ := zb hf
  obtain ⟨hz, hf⟩ := zif_s hf
  obtain ⟨v3, h2, eh2, hf⟩ := zbp_s hf
  refine zr_callV (As := [.int y2, .int y1, .int y0]) kc_L_56 hB hG (c_X10_find eh2) eo1 rfl hl.1 rfl ⟨by decide, by decide⟩ (Nat.le_of_ble_eq_true rfl) hz dL_law_395 (fun H locs hG => ?_)
  refine lv_aload_n hx hb dL_law_398 rfl (lv_at hl 2 rfl) ?_
  refine lv_aload_n hx hb dL_law_399 rfl (lv_at hl 0 rfl) ?_
  refine lv_iload_n hx hb dL_law_400 rfl (lv_at hl 3 rfl) ?_
  refine lv_iconst (v := 1) hx hb dL_law_401 (by decide) ?_
  refine lv_iadd hx hb dL_law_402 ?_
  obtain ⟨v4, ev4, hf⟩ := zb hf
  refine zr_script hx hb hX hbl hG ev4 dL_law_403 ?_
  refine lv_aload_n hx hb dL_law_404 rfl (lv_at hl 0 rfl) ?_
  refine lv_iload_n hx hb dL_law_405 rfl (lv_at hl 3 rfl) ?_
  refine lv_iconst (v := 2) hx hb dL_law_406 (by decide) ?_
  refine lv_iadd hx hb dL_law_407 ?_
  obtain ⟨v5, ev5, hf⟩ := zb hf
  refine zr_script hx hb hX hbl hG ev5 dL_law_408 ?_
  refine lv_aload_n hx hb dL_law_409 rfl (lv_at hl 0 rfl) ?_
  refine lv_iload_n hx hb dL_law_410 rfl (lv_at hl 3 rfl) ?_
  refine lv_iconst (v := 3) hx hb dL_law_411 (by decide) ?_
  refine lv_iadd hx hb dL_law_412 ?_
  obtain ⟨v6, ev6, hf⟩ := zb hf
  refine zr_script hx hb hX hbl hG ev6 dL_law_413 ?_
  refine lv_if_eq (tgt := 421) hx hb dL_law_414 (by decide) (fun hc7 => ?_) (fun hc7 => ?_)
  · rw [if_pos hc7] at hf
    refine lv_iconst (v := 0) hx hb dL_law_421 (by decide) ?_
    exact w_L_law_422 hB hX hbl hk18 _ _ _ N cs sl h2 (x1) (x2) (x3) ((0 : Int32)) (v5) (v4) (x2) (v3) hG (lv_sub hl [0, 1, 2, 3] rfl) hf
  · rw [if_neg hc7] at hf
    refine lv_iconst (v := 1) hx hb dL_law_417 (by decide) ?_
    refine lv_goto (tgt := 422) hx hb dL_law_418 (by decide) ?_
    exact w_L_law_422 hB hX hbl hk18 _ _ _ N cs sl h2 (x1) (x2) (x3) ((1 : Int32)) (v5) (v4) (x2) (v3) hG (lv_sub hl [0, 1, 2, 3] rfl) hf

set_option maxRecDepth 100000 in
set_option maxHeartbeats 4000000 in
theorem w_L_law_542 {L : Nat} {xs : Nat → Int32} (hB : zc_B p s m #[Value.ref bS] meth c cL_law 4 RL ret D K) (hX : va_X bS L xs s s.heap) (hbl : bS < s.heap.size) {k18 : Nat → Nat → Nat → zh_H → Nat → Nat → Int32 → Option Int32} (hk18 : ∀ (H : Heap) (locs : List Loc) (ls : Array Slot) (N cs sl : Nat) (h : zh_H) (x1 : Nat) (x2 : Nat) (x3 : Int32), zh_G D K s.heap.size N h s.heap H locs → lv_has ls 4 [(0, .ref bS), (1, .ref x1), (2, .ref x2), (3, .int x3)] → k18 N cs sl h x1 x2 x3 = some 1 → W p l e room_1 s m #[Value.ref bS] below meth c H locs cs sl (lw_Z below #[Value.ref bS] s) (F0 m 18 ls [])) : ∀ (H : Heap) (locs : List Loc) (ls : Array Slot) (N cs sl : Nat) (h : zh_H) (x1 : Nat) (x2 : Nat) (x3 : Int32) (y0 : Int32) (y1 : Int32) (y2 : Nat) (y3 : Int32), zh_G D K s.heap.size N h s.heap H locs → lv_has ls 4 [(0, .ref bS), (1, .ref x1), (2, .ref x2), (3, .int x3)] → b_L_law_542 L xs k18 N cs sl h x1 x2 x3 y0 y1 y2 y3 = some 1 → W p l e room_1 s m #[Value.ref bS] below meth c H locs cs sl (lw_Z below #[Value.ref bS] s) (F0 m 542 ls [.int y0, .int y1, .ref y2, .int y3]) := by
  have hx := hB.1
  have hb := hB.2.1
  intro H locs ls N cs sl h x1 x2 x3 y0 y1 y2 y3 hG hl hf
  unfold b_L_law_542 at hf
  refine lv_aload_n hx hb dL_law_542 rfl (lv_at hl 0 rfl) ?_
  refine lv_iload_n hx hb dL_law_543 rfl (lv_at hl 3 rfl) ?_
  refine lv_iconst (v := 3) hx hb dL_law_544 (by decide) ?_
  refine lv_iadd hx hb dL_law_545 ?_
  obtain ⟨v1, ev1, hf⟩ := zb hf
  refine zr_script hx hb hX hbl hG ev1 dL_law_546 ?_
  obtain ⟨o2, eo2, hf⟩ := zb hf
  obtain ⟨hz, hf⟩ := zif_s hf
  obtain ⟨v4, h3, eh3, hf⟩ := zbp_s hf
  refine zr_callV (As := [.int y1, .int y0, .int v1]) kc_L_73 hB hG (c_X11_nearest eh3) eo2 rfl hl.1 rfl ⟨by decide, by decide⟩ (Nat.le_of_ble_eq_true rfl) hz dL_law_547 (fun H locs hG => ?_)
  refine lv_icmp_eq (tgt := 925) hx hb dL_law_550 (by decide) (fun hc5 => ?_) (fun hc5 => ?_)
  · rw [if_pos hc5] at hf
    exact w_L_law_925 hB hX hbl hk18 _ _ _ N cs sl h3 (x1) (x2) (x3) hG (lv_sub hl [0, 1, 2, 3] rfl) hf
  · rw [if_neg hc5] at hf
    refine lv_iconst (v := 0) hx hb dL_law_553 (by decide) ?_
    exact absurd (Option.some.inj hf) (by decide)

set_option maxRecDepth 100000 in
set_option maxHeartbeats 4000000 in
theorem w_L_law_515 {L : Nat} {xs : Nat → Int32} (hB : zc_B p s m #[Value.ref bS] meth c cL_law 4 RL ret D K) (hX : va_X bS L xs s s.heap) (hbl : bS < s.heap.size) {k18 : Nat → Nat → Nat → zh_H → Nat → Nat → Int32 → Option Int32} (hk18 : ∀ (H : Heap) (locs : List Loc) (ls : Array Slot) (N cs sl : Nat) (h : zh_H) (x1 : Nat) (x2 : Nat) (x3 : Int32), zh_G D K s.heap.size N h s.heap H locs → lv_has ls 4 [(0, .ref bS), (1, .ref x1), (2, .ref x2), (3, .int x3)] → k18 N cs sl h x1 x2 x3 = some 1 → W p l e room_1 s m #[Value.ref bS] below meth c H locs cs sl (lw_Z below #[Value.ref bS] s) (F0 m 18 ls [])) : ∀ (H : Heap) (locs : List Loc) (ls : Array Slot) (N cs sl : Nat) (h : zh_H) (x1 : Nat) (x2 : Nat) (x3 : Int32) (y0 : Int32) (y1 : Int32) (y2 : Nat), zh_G D K s.heap.size N h s.heap H locs → lv_has ls 4 [(0, .ref bS), (1, .ref x1), (2, .ref x2), (3, .int x3)] → b_L_law_515 L xs k18 N cs sl h x1 x2 x3 y0 y1 y2 = some 1 → W p l e room_1 s m #[Value.ref bS] below meth c H locs cs sl (lw_Z below #[Value.ref bS] s) (F0 m 515 ls [.int y0, .int y1, .ref y2]) := by
  have hx := hB.1
  have hb := hB.2.1
  intro H locs ls N cs sl h x1 x2 x3 y0 y1 y2 hG hl hf
  unfold b_L_law_515 at hf
  refine lv_aload_n hx hb dL_law_515 rfl (lv_at hl 0 rfl) ?_
  refine lv_iload_n hx hb dL_law_516 rfl (lv_at hl 3 rfl) ?_
  refine lv_iconst (v := 3) hx hb dL_law_517 (by decide) ?_
  refine lv_iadd hx hb dL_law_518 ?_
  obtain ⟨v1, ev1, hf⟩ := zb hf
  refine zr_script hx hb hX hbl hG ev1 dL_law_519 ?_
  obtain ⟨o2, eo2, hf⟩ := zb hf
  obtain ⟨hz, hf⟩ := zif_s hf
  obtain ⟨v4, h3, eh3, hf⟩ := zbp_s hf
  refine zr_callV (As := [.int y1, .int y0, .int v1]) kc_L_69 hB hG (c_X10_nearest eh3) eo2 rfl hl.1 rfl ⟨by decide, by decide⟩ (Nat.le_of_ble_eq_true rfl) hz dL_law_520 (fun H locs hG => ?_)
  refine lv_aload_n hx hb dL_law_523 rfl (lv_at hl 2 rfl) ?_
  refine lv_aload_n hx hb dL_law_524 rfl (lv_at hl 0 rfl) ?_
  refine lv_iload_n hx hb dL_law_525 rfl (lv_at hl 3 rfl) ?_
  refine lv_iconst (v := 1) hx hb dL_law_526 (by decide) ?_
  refine lv_iadd hx hb dL_law_527 ?_
  obtain ⟨v5, ev5, hf⟩ := zb hf
  refine zr_script hx hb hX hbl hG ev5 dL_law_528 ?_
  refine lv_aload_n hx hb dL_law_529 rfl (lv_at hl 0 rfl) ?_
  refine lv_iload_n hx hb dL_law_530 rfl (lv_at hl 3 rfl) ?_
  refine lv_iconst (v := 2) hx hb dL_law_531 (by decide) ?_
  refine lv_iadd hx hb dL_law_532 ?_
  obtain ⟨v6, ev6, hf⟩ := zb hf
  refine zr_script hx hb hX hbl hG ev6 dL_law_533 ?_
  refine lv_if_eq (tgt := 541) hx hb dL_law_534 (by decide) (fun hc7 => ?_) (fun hc7 => ?_)
  · rw [if_pos hc7] at hf
    refine lv_iconst (v := 0) hx hb dL_law_541 (by decide) ?_
    exact w_L_law_542 hB hX hbl hk18 _ _ _ N cs sl h3 (x1) (x2) (x3) ((0 : Int32)) (v5) (x2) (v4) hG (lv_sub hl [0, 1, 2, 3] rfl) hf
  · rw [if_neg hc7] at hf
    refine lv_iconst (v := 1) hx hb dL_law_537 (by decide) ?_
    refine lv_goto (tgt := 542) hx hb dL_law_538 (by decide) ?_
    exact w_L_law_542 hB hX hbl hk18 _ _ _ N cs sl h3 (x1) (x2) (x3) ((1 : Int32)) (v5) (x2) (v4) hG (lv_sub hl [0, 1, 2, 3] rfl) hf

set_option maxRecDepth 100000 in
set_option maxHeartbeats 4000000 in
theorem w_L_law_606 {L : Nat} {xs : Nat → Int32} (hB : zc_B p s m #[Value.ref bS] meth c cL_law 4 RL ret D K) (hX : va_X bS L xs s s.heap) (hbl : bS < s.heap.size) {k18 : Nat → Nat → Nat → zh_H → Nat → Nat → Int32 → Option Int32} (hk18 : ∀ (H : Heap) (locs : List Loc) (ls : Array Slot) (N cs sl : Nat) (h : zh_H) (x1 : Nat) (x2 : Nat) (x3 : Int32), zh_G D K s.heap.size N h s.heap H locs → lv_has ls 4 [(0, .ref bS), (1, .ref x1), (2, .ref x2), (3, .int x3)] → k18 N cs sl h x1 x2 x3 = some 1 → W p l e room_1 s m #[Value.ref bS] below meth c H locs cs sl (lw_Z below #[Value.ref bS] s) (F0 m 18 ls [])) : ∀ (H : Heap) (locs : List Loc) (ls : Array Slot) (N cs sl : Nat) (h : zh_H) (x1 : Nat) (x2 : Nat) (x3 : Int32) (y0 : Int32) (y1 : Int32) (y2 : Int32) (y3 : Nat) (y4 : Int32), zh_G D K s.heap.size N h s.heap H locs → lv_has ls 4 [(0, .ref bS), (1, .ref x1), (2, .ref x2), (3, .int x3)] → b_L_law_606 L xs k18 N cs sl h x1 x2 x3 y0 y1 y2 y3 y4 = some 1 → W p l e room_1 s m #[Value.ref bS] below meth c H locs cs sl (lw_Z below #[Value.ref bS] s) (F0 m 606 ls [.int y0, .int y1, .int y2, .ref y3, .int y4]) := by
  have hx := hB.1
  have hb := hB.2.1
  intro H locs ls N cs sl h x1 x2 x3 y0 y1 y2 y3 y4 hG hl hf
  unfold b_L_law_606 at hf
  obtain ⟨o1, eo1, hf⟩ := zb hf
  obtain ⟨hz, hf⟩ := zif_s hf
  obtain ⟨v3, h2, eh2, hf⟩ := zbp_s hf
  refine zr_callV (As := [.int y2, .int y1, .int y0]) kc_L_77 hB hG (c_X11_lines eh2) eo1 rfl hl.1 rfl ⟨by decide, by decide⟩ (Nat.le_of_ble_eq_true rfl) hz dL_law_606 (fun H locs hG => ?_)
  refine lv_icmp_eq (tgt := 925) hx hb dL_law_609 (by decide) (fun hc4 => ?_) (fun hc4 => ?_)
  · rw [if_pos hc4] at hf
    exact w_L_law_925 hB hX hbl hk18 _ _ _ N cs sl h2 (x1) (x2) (x3) hG (lv_sub hl [0, 1, 2, 3] rfl) hf
  · rw [if_neg hc4] at hf
    refine lv_iconst (v := 0) hx hb dL_law_612 (by decide) ?_
    exact absurd (Option.some.inj hf) (by decide)

set_option maxRecDepth 100000 in
set_option maxHeartbeats 4000000 in
theorem w_L_law_579 {L : Nat} {xs : Nat → Int32} (hB : zc_B p s m #[Value.ref bS] meth c cL_law 4 RL ret D K) (hX : va_X bS L xs s s.heap) (hbl : bS < s.heap.size) {k18 : Nat → Nat → Nat → zh_H → Nat → Nat → Int32 → Option Int32} (hk18 : ∀ (H : Heap) (locs : List Loc) (ls : Array Slot) (N cs sl : Nat) (h : zh_H) (x1 : Nat) (x2 : Nat) (x3 : Int32), zh_G D K s.heap.size N h s.heap H locs → lv_has ls 4 [(0, .ref bS), (1, .ref x1), (2, .ref x2), (3, .int x3)] → k18 N cs sl h x1 x2 x3 = some 1 → W p l e room_1 s m #[Value.ref bS] below meth c H locs cs sl (lw_Z below #[Value.ref bS] s) (F0 m 18 ls [])) : ∀ (H : Heap) (locs : List Loc) (ls : Array Slot) (N cs sl : Nat) (h : zh_H) (x1 : Nat) (x2 : Nat) (x3 : Int32) (y0 : Int32) (y1 : Int32) (y2 : Int32) (y3 : Nat), zh_G D K s.heap.size N h s.heap H locs → lv_has ls 4 [(0, .ref bS), (1, .ref x1), (2, .ref x2), (3, .int x3)] → b_L_law_579 L xs k18 N cs sl h x1 x2 x3 y0 y1 y2 y3 = some 1 → W p l e room_1 s m #[Value.ref bS] below meth c H locs cs sl (lw_Z below #[Value.ref bS] s) (F0 m 579 ls [.int y0, .int y1, .int y2, .ref y3]) := by
  have hx := hB.1
  have hb := hB.2.1
  intro H locs ls N cs sl h x1 x2 x3 y0 y1 y2 y3 hG hl hf
  unfold b_L_law_579 at hf
  obtain ⟨o1, eo1, hf⟩ := zb hf
  obtain ⟨hz, hf⟩ := zif_s hf
  obtain ⟨v3, h2, eh2, hf⟩ := zbp_s hf
  refine zr_callV (As := [.int y2, .int y1, .int y0]) kc_L_74 hB hG (c_X10_lines eh2) eo1 rfl hl.1 rfl ⟨by decide, by decide⟩ (Nat.le_of_ble_eq_true rfl) hz dL_law_579 (fun H locs hG => ?_)
  refine lv_aload_n hx hb dL_law_582 rfl (lv_at hl 2 rfl) ?_
  refine lv_aload_n hx hb dL_law_583 rfl (lv_at hl 0 rfl) ?_
  refine lv_iload_n hx hb dL_law_584 rfl (lv_at hl 3 rfl) ?_
  refine lv_iconst (v := 1) hx hb dL_law_585 (by decide) ?_
  refine lv_iadd hx hb dL_law_586 ?_
  obtain ⟨v4, ev4, hf⟩ := zb hf
  refine zr_script hx hb hX hbl hG ev4 dL_law_587 ?_
  refine lv_aload_n hx hb dL_law_588 rfl (lv_at hl 0 rfl) ?_
  refine lv_iload_n hx hb dL_law_589 rfl (lv_at hl 3 rfl) ?_
  refine lv_iconst (v := 2) hx hb dL_law_590 (by decide) ?_
  refine lv_iadd hx hb dL_law_591 ?_
  obtain ⟨v5, ev5, hf⟩ := zb hf
  refine zr_script hx hb hX hbl hG ev5 dL_law_592 ?_
  refine lv_aload_n hx hb dL_law_593 rfl (lv_at hl 0 rfl) ?_
  refine lv_iload_n hx hb dL_law_594 rfl (lv_at hl 3 rfl) ?_
  refine lv_iconst (v := 3) hx hb dL_law_595 (by decide) ?_
  refine lv_iadd hx hb dL_law_596 ?_
  obtain ⟨v6, ev6, hf⟩ := zb hf
  refine zr_script hx hb hX hbl hG ev6 dL_law_597 ?_
  refine lv_if_eq (tgt := 605) hx hb dL_law_598 (by decide) (fun hc7 => ?_) (fun hc7 => ?_)
  · rw [if_pos hc7] at hf
    refine lv_iconst (v := 0) hx hb dL_law_605 (by decide) ?_
    exact w_L_law_606 hB hX hbl hk18 _ _ _ N cs sl h2 (x1) (x2) (x3) ((0 : Int32)) (v5) (v4) (x2) (v3) hG (lv_sub hl [0, 1, 2, 3] rfl) hf
  · rw [if_neg hc7] at hf
    refine lv_iconst (v := 1) hx hb dL_law_601 (by decide) ?_
    refine lv_goto (tgt := 606) hx hb dL_law_602 (by decide) ?_
    exact w_L_law_606 hB hX hbl hk18 _ _ _ N cs sl h2 (x1) (x2) (x3) ((1 : Int32)) (v5) (v4) (x2) (v3) hG (lv_sub hl [0, 1, 2, 3] rfl) hf

set_option maxRecDepth 100000 in
set_option maxHeartbeats 4000000 in
theorem w_L_law_688 {L : Nat} {xs : Nat → Int32} (hB : zc_B p s m #[Value.ref bS] meth c cL_law 4 RL ret D K) (hX : va_X bS L xs s s.heap) (hbl : bS < s.heap.size) {k18 : Nat → Nat → Nat → zh_H → Nat → Nat → Int32 → Option Int32} (hk18 : ∀ (H : Heap) (locs : List Loc) (ls : Array Slot) (N cs sl : Nat) (h : zh_H) (x1 : Nat) (x2 : Nat) (x3 : Int32), zh_G D K s.heap.size N h s.heap H locs → lv_has ls 4 [(0, .ref bS), (1, .ref x1), (2, .ref x2), (3, .int x3)] → k18 N cs sl h x1 x2 x3 = some 1 → W p l e room_1 s m #[Value.ref bS] below meth c H locs cs sl (lw_Z below #[Value.ref bS] s) (F0 m 18 ls [])) : ∀ (H : Heap) (locs : List Loc) (ls : Array Slot) (N cs sl : Nat) (h : zh_H) (x1 : Nat) (x2 : Nat) (x3 : Int32) (y0 : Int32) (y1 : Int32) (y2 : Int32) (y3 : Nat) (y4 : Int32), zh_G D K s.heap.size N h s.heap H locs → lv_has ls 4 [(0, .ref bS), (1, .ref x1), (2, .ref x2), (3, .int x3)] → b_L_law_688 L xs k18 N cs sl h x1 x2 x3 y0 y1 y2 y3 y4 = some 1 → W p l e room_1 s m #[Value.ref bS] below meth c H locs cs sl (lw_Z below #[Value.ref bS] s) (F0 m 688 ls [.int y0, .int y1, .int y2, .ref y3, .int y4]) := by
  have hx := hB.1
  have hb := hB.2.1
  intro H locs ls N cs sl h x1 x2 x3 y0 y1 y2 y3 y4 hG hl hf
  unfold b_L_law_688 at hf
  obtain ⟨o1, eo1, hf⟩ := zb hf
  obtain ⟨hz, hf⟩ := zif_s hf
  obtain ⟨v3, h2, eh2, hf⟩ := zbp_s hf
  refine zr_callV (As := [.int y2, .int y1, .int y0]) kc_L_85 hB hG (c_X11_replace eh2) eo1 rfl hl.1 rfl ⟨by decide, by decide⟩ (Nat.le_of_ble_eq_true rfl) hz dL_law_688 (fun H locs hG => ?_)
  refine lv_icmp_eq (tgt := 925) hx hb dL_law_691 (by decide) (fun hc4 => ?_) (fun hc4 => ?_)
  · rw [if_pos hc4] at hf
    exact w_L_law_925 hB hX hbl hk18 _ _ _ N cs sl h2 (x1) (x2) (x3) hG (lv_sub hl [0, 1, 2, 3] rfl) hf
  · rw [if_neg hc4] at hf
    refine lv_iconst (v := 0) hx hb dL_law_694 (by decide) ?_
    exact absurd (Option.some.inj hf) (by decide)

set_option maxRecDepth 100000 in
set_option maxHeartbeats 4000000 in
theorem w_L_law_661 {L : Nat} {xs : Nat → Int32} (hB : zc_B p s m #[Value.ref bS] meth c cL_law 4 RL ret D K) (hX : va_X bS L xs s s.heap) (hbl : bS < s.heap.size) {k18 : Nat → Nat → Nat → zh_H → Nat → Nat → Int32 → Option Int32} (hk18 : ∀ (H : Heap) (locs : List Loc) (ls : Array Slot) (N cs sl : Nat) (h : zh_H) (x1 : Nat) (x2 : Nat) (x3 : Int32), zh_G D K s.heap.size N h s.heap H locs → lv_has ls 4 [(0, .ref bS), (1, .ref x1), (2, .ref x2), (3, .int x3)] → k18 N cs sl h x1 x2 x3 = some 1 → W p l e room_1 s m #[Value.ref bS] below meth c H locs cs sl (lw_Z below #[Value.ref bS] s) (F0 m 18 ls [])) : ∀ (H : Heap) (locs : List Loc) (ls : Array Slot) (N cs sl : Nat) (h : zh_H) (x1 : Nat) (x2 : Nat) (x3 : Int32) (y0 : Int32) (y1 : Int32) (y2 : Int32) (y3 : Nat), zh_G D K s.heap.size N h s.heap H locs → lv_has ls 4 [(0, .ref bS), (1, .ref x1), (2, .ref x2), (3, .int x3)] → b_L_law_661 L xs k18 N cs sl h x1 x2 x3 y0 y1 y2 y3 = some 1 → W p l e room_1 s m #[Value.ref bS] below meth c H locs cs sl (lw_Z below #[Value.ref bS] s) (F0 m 661 ls [.int y0, .int y1, .int y2, .ref y3]) := by
  have hx := hB.1
  have hb := hB.2.1
  intro H locs ls N cs sl h x1 x2 x3 y0 y1 y2 y3 hG hl hf
  unfold b_L_law_661 at hf
  obtain ⟨o1, eo1, hf⟩ := zb hf
  obtain ⟨hz, hf⟩ := zif_s hf
  obtain ⟨v3, h2, eh2, hf⟩ := zbp_s hf
  refine zr_callV (As := [.int y2, .int y1, .int y0]) kc_L_82 hB hG (c_X10_replace eh2) eo1 rfl hl.1 rfl ⟨by decide, by decide⟩ (Nat.le_of_ble_eq_true rfl) hz dL_law_661 (fun H locs hG => ?_)
  refine lv_aload_n hx hb dL_law_664 rfl (lv_at hl 2 rfl) ?_
  refine lv_aload_n hx hb dL_law_665 rfl (lv_at hl 0 rfl) ?_
  refine lv_iload_n hx hb dL_law_666 rfl (lv_at hl 3 rfl) ?_
  refine lv_iconst (v := 1) hx hb dL_law_667 (by decide) ?_
  refine lv_iadd hx hb dL_law_668 ?_
  obtain ⟨v4, ev4, hf⟩ := zb hf
  refine zr_script hx hb hX hbl hG ev4 dL_law_669 ?_
  refine lv_aload_n hx hb dL_law_670 rfl (lv_at hl 0 rfl) ?_
  refine lv_iload_n hx hb dL_law_671 rfl (lv_at hl 3 rfl) ?_
  refine lv_iconst (v := 2) hx hb dL_law_672 (by decide) ?_
  refine lv_iadd hx hb dL_law_673 ?_
  obtain ⟨v5, ev5, hf⟩ := zb hf
  refine zr_script hx hb hX hbl hG ev5 dL_law_674 ?_
  refine lv_aload_n hx hb dL_law_675 rfl (lv_at hl 0 rfl) ?_
  refine lv_iload_n hx hb dL_law_676 rfl (lv_at hl 3 rfl) ?_
  refine lv_iconst (v := 3) hx hb dL_law_677 (by decide) ?_
  refine lv_iadd hx hb dL_law_678 ?_
  obtain ⟨v6, ev6, hf⟩ := zb hf
  refine zr_script hx hb hX hbl hG ev6 dL_law_679 ?_
  refine lv_if_eq (tgt := 687) hx hb dL_law_680 (by decide) (fun hc7 => ?_) (fun hc7 => ?_)
  · rw [if_pos hc7] at hf
    refine lv_iconst (v := 0) hx hb dL_law_687 (by decide) ?_
    exact w_L_law_688 hB hX hbl hk18 _ _ _ N cs sl h2 (x1) (x2) (x3) ((0 : Int32)) (v5) (v4) (x2) (v3) hG (lv_sub hl [0, 1, 2, 3] rfl) hf
  · rw [if_neg hc7] at hf
    refine lv_iconst (v := 1) hx hb dL_law_683 (by decide) ?_
    refine lv_goto (tgt := 688) hx hb dL_law_684 (by decide) ?_
    exact w_L_law_688 hB hX hbl hk18 _ _ _ N cs sl h2 (x1) (x2) (x3) ((1 : Int32)) (v5) (v4) (x2) (v3) hG (lv_sub hl [0, 1, 2, 3] rfl) hf

set_option maxRecDepth 100000 in
set_option maxHeartbeats 4000000 in
theorem w_L_law_762 {L : Nat} {xs : Nat → Int32} (hB : zc_B p s m #[Value.ref bS] meth c cL_law 4 RL ret D K) (hX : va_X bS L xs s s.heap) (hbl : bS < s.heap.size) {k18 : Nat → Nat → Nat → zh_H → Nat → Nat → Int32 → Option Int32} (hk18 : ∀ (H : Heap) (locs : List Loc) (ls : Array Slot) (N cs sl : Nat) (h : zh_H) (x1 : Nat) (x2 : Nat) (x3 : Int32), zh_G D K s.heap.size N h s.heap H locs → lv_has ls 4 [(0, .ref bS), (1, .ref x1), (2, .ref x2), (3, .int x3)] → k18 N cs sl h x1 x2 x3 = some 1 → W p l e room_1 s m #[Value.ref bS] below meth c H locs cs sl (lw_Z below #[Value.ref bS] s) (F0 m 18 ls [])) : ∀ (H : Heap) (locs : List Loc) (ls : Array Slot) (N cs sl : Nat) (h : zh_H) (x1 : Nat) (x2 : Nat) (x3 : Int32) (y0 : Int32) (y1 : Int32) (y2 : Int32) (y3 : Int32) (y4 : Nat) (y5 : Int32), zh_G D K s.heap.size N h s.heap H locs → lv_has ls 4 [(0, .ref bS), (1, .ref x1), (2, .ref x2), (3, .int x3)] → b_L_law_762 L xs k18 N cs sl h x1 x2 x3 y0 y1 y2 y3 y4 y5 = some 1 → W p l e room_1 s m #[Value.ref bS] below meth c H locs cs sl (lw_Z below #[Value.ref bS] s) (F0 m 762 ls [.int y0, .int y1, .int y2, .int y3, .ref y4, .int y5]) := by
  have hx := hB.1
  have hb := hB.2.1
  intro H locs ls N cs sl h x1 x2 x3 y0 y1 y2 y3 y4 y5 hG hl hf
  unfold b_L_law_762 at hf
  refine lv_aload_n hx hb dL_law_762 rfl (lv_at hl 0 rfl) ?_
  refine lv_iload_n hx hb dL_law_763 rfl (lv_at hl 3 rfl) ?_
  refine lv_iconst (v := 5) hx hb dL_law_764 (by decide) ?_
  refine lv_iadd hx hb dL_law_765 ?_
  obtain ⟨v1, ev1, hf⟩ := zb hf
  refine zr_script hx hb hX hbl hG ev1 dL_law_766 ?_
  obtain ⟨o2, eo2, hf⟩ := zb hf
  obtain ⟨hz, hf⟩ := zif_s hf
  obtain ⟨v4, h3, eh3, hf⟩ := zbp_s hf
  refine zr_callV (As := [.int y3, .int y2, .int y1, .int y0, .int v1]) kc_L_90 hB hG (c_X11_whole eh3) eo2 rfl hl.1 rfl ⟨by decide, by decide⟩ (Nat.le_of_ble_eq_true rfl) hz dL_law_767 (fun H locs hG => ?_)
  refine lv_icmp_eq (tgt := 925) hx hb dL_law_770 (by decide) (fun hc5 => ?_) (fun hc5 => ?_)
  · rw [if_pos hc5] at hf
    exact w_L_law_925 hB hX hbl hk18 _ _ _ N cs sl h3 (x1) (x2) (x3) hG (lv_sub hl [0, 1, 2, 3] rfl) hf
  · rw [if_neg hc5] at hf
    refine lv_iconst (v := 0) hx hb dL_law_773 (by decide) ?_
    exact absurd (Option.some.inj hf) (by decide)

set_option maxRecDepth 100000 in
set_option maxHeartbeats 4000000 in
theorem w_L_law_725 {L : Nat} {xs : Nat → Int32} (hB : zc_B p s m #[Value.ref bS] meth c cL_law 4 RL ret D K) (hX : va_X bS L xs s s.heap) (hbl : bS < s.heap.size) {k18 : Nat → Nat → Nat → zh_H → Nat → Nat → Int32 → Option Int32} (hk18 : ∀ (H : Heap) (locs : List Loc) (ls : Array Slot) (N cs sl : Nat) (h : zh_H) (x1 : Nat) (x2 : Nat) (x3 : Int32), zh_G D K s.heap.size N h s.heap H locs → lv_has ls 4 [(0, .ref bS), (1, .ref x1), (2, .ref x2), (3, .int x3)] → k18 N cs sl h x1 x2 x3 = some 1 → W p l e room_1 s m #[Value.ref bS] below meth c H locs cs sl (lw_Z below #[Value.ref bS] s) (F0 m 18 ls [])) : ∀ (H : Heap) (locs : List Loc) (ls : Array Slot) (N cs sl : Nat) (h : zh_H) (x1 : Nat) (x2 : Nat) (x3 : Int32) (y0 : Int32) (y1 : Int32) (y2 : Int32) (y3 : Int32) (y4 : Nat), zh_G D K s.heap.size N h s.heap H locs → lv_has ls 4 [(0, .ref bS), (1, .ref x1), (2, .ref x2), (3, .int x3)] → b_L_law_725 L xs k18 N cs sl h x1 x2 x3 y0 y1 y2 y3 y4 = some 1 → W p l e room_1 s m #[Value.ref bS] below meth c H locs cs sl (lw_Z below #[Value.ref bS] s) (F0 m 725 ls [.int y0, .int y1, .int y2, .int y3, .ref y4]) := by
  have hx := hB.1
  have hb := hB.2.1
  intro H locs ls N cs sl h x1 x2 x3 y0 y1 y2 y3 y4 hG hl hf
  unfold b_L_law_725 at hf
  refine lv_aload_n hx hb dL_law_725 rfl (lv_at hl 0 rfl) ?_
  refine lv_iload_n hx hb dL_law_726 rfl (lv_at hl 3 rfl) ?_
  refine lv_iconst (v := 5) hx hb dL_law_727 (by decide) ?_
  refine lv_iadd hx hb dL_law_728 ?_
  obtain ⟨v1, ev1, hf⟩ := zb hf
  refine zr_script hx hb hX hbl hG ev1 dL_law_729 ?_
  obtain ⟨o2, eo2, hf⟩ := zb hf
  obtain ⟨hz, hf⟩ := zif_s hf
  obtain ⟨v4, h3, eh3, hf⟩ := zbp_s hf
  refine zr_callV (As := [.int y3, .int y2, .int y1, .int y0, .int v1]) kc_L_86 hB hG (c_X10_whole eh3) eo2 rfl hl.1 rfl ⟨by decide, by decide⟩ (Nat.le_of_ble_eq_true rfl) hz dL_law_730 (fun H locs hG => ?_)
  refine lv_aload_n hx hb dL_law_733 rfl (lv_at hl 2 rfl) ?_
  refine lv_aload_n hx hb dL_law_734 rfl (lv_at hl 0 rfl) ?_
  refine lv_iload_n hx hb dL_law_735 rfl (lv_at hl 3 rfl) ?_
  refine lv_iconst (v := 1) hx hb dL_law_736 (by decide) ?_
  refine lv_iadd hx hb dL_law_737 ?_
  obtain ⟨v5, ev5, hf⟩ := zb hf
  refine zr_script hx hb hX hbl hG ev5 dL_law_738 ?_
  refine lv_aload_n hx hb dL_law_739 rfl (lv_at hl 0 rfl) ?_
  refine lv_iload_n hx hb dL_law_740 rfl (lv_at hl 3 rfl) ?_
  refine lv_iconst (v := 2) hx hb dL_law_741 (by decide) ?_
  refine lv_iadd hx hb dL_law_742 ?_
  obtain ⟨v6, ev6, hf⟩ := zb hf
  refine zr_script hx hb hX hbl hG ev6 dL_law_743 ?_
  refine lv_aload_n hx hb dL_law_744 rfl (lv_at hl 0 rfl) ?_
  refine lv_iload_n hx hb dL_law_745 rfl (lv_at hl 3 rfl) ?_
  refine lv_iconst (v := 3) hx hb dL_law_746 (by decide) ?_
  refine lv_iadd hx hb dL_law_747 ?_
  obtain ⟨v7, ev7, hf⟩ := zb hf
  refine zr_script hx hb hX hbl hG ev7 dL_law_748 ?_
  refine lv_aload_n hx hb dL_law_749 rfl (lv_at hl 0 rfl) ?_
  refine lv_iload_n hx hb dL_law_750 rfl (lv_at hl 3 rfl) ?_
  refine lv_iconst (v := 4) hx hb dL_law_751 (by decide) ?_
  refine lv_iadd hx hb dL_law_752 ?_
  obtain ⟨v8, ev8, hf⟩ := zb hf
  refine zr_script hx hb hX hbl hG ev8 dL_law_753 ?_
  refine lv_if_eq (tgt := 761) hx hb dL_law_754 (by decide) (fun hc9 => ?_) (fun hc9 => ?_)
  · rw [if_pos hc9] at hf
    refine lv_iconst (v := 0) hx hb dL_law_761 (by decide) ?_
    exact w_L_law_762 hB hX hbl hk18 _ _ _ N cs sl h3 (x1) (x2) (x3) ((0 : Int32)) (v7) (v6) (v5) (x2) (v4) hG (lv_sub hl [0, 1, 2, 3] rfl) hf
  · rw [if_neg hc9] at hf
    refine lv_iconst (v := 1) hx hb dL_law_757 (by decide) ?_
    refine lv_goto (tgt := 762) hx hb dL_law_758 (by decide) ?_
    exact w_L_law_762 hB hX hbl hk18 _ _ _ N cs sl h3 (x1) (x2) (x3) ((1 : Int32)) (v7) (v6) (v5) (x2) (v4) hG (lv_sub hl [0, 1, 2, 3] rfl) hf

set_option maxRecDepth 100000 in
set_option maxHeartbeats 4000000 in
theorem w_L_law_826 {L : Nat} {xs : Nat → Int32} (hB : zc_B p s m #[Value.ref bS] meth c cL_law 4 RL ret D K) (hX : va_X bS L xs s s.heap) (hbl : bS < s.heap.size) {k18 : Nat → Nat → Nat → zh_H → Nat → Nat → Int32 → Option Int32} (hk18 : ∀ (H : Heap) (locs : List Loc) (ls : Array Slot) (N cs sl : Nat) (h : zh_H) (x1 : Nat) (x2 : Nat) (x3 : Int32), zh_G D K s.heap.size N h s.heap H locs → lv_has ls 4 [(0, .ref bS), (1, .ref x1), (2, .ref x2), (3, .int x3)] → k18 N cs sl h x1 x2 x3 = some 1 → W p l e room_1 s m #[Value.ref bS] below meth c H locs cs sl (lw_Z below #[Value.ref bS] s) (F0 m 18 ls [])) : ∀ (H : Heap) (locs : List Loc) (ls : Array Slot) (N cs sl : Nat) (h : zh_H) (x1 : Nat) (x2 : Nat) (x3 : Int32) (y0 : Int32) (y1 : Int32) (y2 : Int32) (y3 : Nat) (y4 : Int32), zh_G D K s.heap.size N h s.heap H locs → lv_has ls 4 [(0, .ref bS), (1, .ref x1), (2, .ref x2), (3, .int x3)] → b_L_law_826 L xs k18 N cs sl h x1 x2 x3 y0 y1 y2 y3 y4 = some 1 → W p l e room_1 s m #[Value.ref bS] below meth c H locs cs sl (lw_Z below #[Value.ref bS] s) (F0 m 826 ls [.int y0, .int y1, .int y2, .ref y3, .int y4]) := by
  have hx := hB.1
  have hb := hB.2.1
  intro H locs ls N cs sl h x1 x2 x3 y0 y1 y2 y3 y4 hG hl hf
  unfold b_L_law_826 at hf
  obtain ⟨o1, eo1, hf⟩ := zb hf
  obtain ⟨hz, hf⟩ := zif_s hf
  obtain ⟨v3, h2, eh2, hf⟩ := zbp_s hf
  refine zr_callV (As := [.int y2, .int y1, .int y0]) kc_L_94 hB hG (c_X11_which eh2) eo1 rfl hl.1 rfl ⟨by decide, by decide⟩ (Nat.le_of_ble_eq_true rfl) hz dL_law_826 (fun H locs hG => ?_)
  refine lv_icmp_eq (tgt := 925) hx hb dL_law_829 (by decide) (fun hc4 => ?_) (fun hc4 => ?_)
  · rw [if_pos hc4] at hf
    exact w_L_law_925 hB hX hbl hk18 _ _ _ N cs sl h2 (x1) (x2) (x3) hG (lv_sub hl [0, 1, 2, 3] rfl) hf
  · rw [if_neg hc4] at hf
    refine lv_iconst (v := 0) hx hb dL_law_832 (by decide) ?_
    exact absurd (Option.some.inj hf) (by decide)

set_option maxRecDepth 100000 in
set_option maxHeartbeats 4000000 in
theorem w_L_law_799 {L : Nat} {xs : Nat → Int32} (hB : zc_B p s m #[Value.ref bS] meth c cL_law 4 RL ret D K) (hX : va_X bS L xs s s.heap) (hbl : bS < s.heap.size) {k18 : Nat → Nat → Nat → zh_H → Nat → Nat → Int32 → Option Int32} (hk18 : ∀ (H : Heap) (locs : List Loc) (ls : Array Slot) (N cs sl : Nat) (h : zh_H) (x1 : Nat) (x2 : Nat) (x3 : Int32), zh_G D K s.heap.size N h s.heap H locs → lv_has ls 4 [(0, .ref bS), (1, .ref x1), (2, .ref x2), (3, .int x3)] → k18 N cs sl h x1 x2 x3 = some 1 → W p l e room_1 s m #[Value.ref bS] below meth c H locs cs sl (lw_Z below #[Value.ref bS] s) (F0 m 18 ls [])) : ∀ (H : Heap) (locs : List Loc) (ls : Array Slot) (N cs sl : Nat) (h : zh_H) (x1 : Nat) (x2 : Nat) (x3 : Int32) (y0 : Int32) (y1 : Int32) (y2 : Int32) (y3 : Nat), zh_G D K s.heap.size N h s.heap H locs → lv_has ls 4 [(0, .ref bS), (1, .ref x1), (2, .ref x2), (3, .int x3)] → b_L_law_799 L xs k18 N cs sl h x1 x2 x3 y0 y1 y2 y3 = some 1 → W p l e room_1 s m #[Value.ref bS] below meth c H locs cs sl (lw_Z below #[Value.ref bS] s) (F0 m 799 ls [.int y0, .int y1, .int y2, .ref y3]) := by
  have hx := hB.1
  have hb := hB.2.1
  intro H locs ls N cs sl h x1 x2 x3 y0 y1 y2 y3 hG hl hf
  unfold b_L_law_799 at hf
  obtain ⟨o1, eo1, hf⟩ := zb hf
  obtain ⟨hz, hf⟩ := zif_s hf
  obtain ⟨v3, h2, eh2, hf⟩ := zbp_s hf
  refine zr_callV (As := [.int y2, .int y1, .int y0]) kc_L_91 hB hG (c_X10_which eh2) eo1 rfl hl.1 rfl ⟨by decide, by decide⟩ (Nat.le_of_ble_eq_true rfl) hz dL_law_799 (fun H locs hG => ?_)
  refine lv_aload_n hx hb dL_law_802 rfl (lv_at hl 2 rfl) ?_
  refine lv_aload_n hx hb dL_law_803 rfl (lv_at hl 0 rfl) ?_
  refine lv_iload_n hx hb dL_law_804 rfl (lv_at hl 3 rfl) ?_
  refine lv_iconst (v := 1) hx hb dL_law_805 (by decide) ?_
  refine lv_iadd hx hb dL_law_806 ?_
  obtain ⟨v4, ev4, hf⟩ := zb hf
  refine zr_script hx hb hX hbl hG ev4 dL_law_807 ?_
  refine lv_aload_n hx hb dL_law_808 rfl (lv_at hl 0 rfl) ?_
  refine lv_iload_n hx hb dL_law_809 rfl (lv_at hl 3 rfl) ?_
  refine lv_iconst (v := 2) hx hb dL_law_810 (by decide) ?_
  refine lv_iadd hx hb dL_law_811 ?_
  obtain ⟨v5, ev5, hf⟩ := zb hf
  refine zr_script hx hb hX hbl hG ev5 dL_law_812 ?_
  refine lv_aload_n hx hb dL_law_813 rfl (lv_at hl 0 rfl) ?_
  refine lv_iload_n hx hb dL_law_814 rfl (lv_at hl 3 rfl) ?_
  refine lv_iconst (v := 3) hx hb dL_law_815 (by decide) ?_
  refine lv_iadd hx hb dL_law_816 ?_
  obtain ⟨v6, ev6, hf⟩ := zb hf
  refine zr_script hx hb hX hbl hG ev6 dL_law_817 ?_
  refine lv_if_eq (tgt := 825) hx hb dL_law_818 (by decide) (fun hc7 => ?_) (fun hc7 => ?_)
  · rw [if_pos hc7] at hf
    refine lv_iconst (v := 0) hx hb dL_law_825 (by decide) ?_
    exact w_L_law_826 hB hX hbl hk18 _ _ _ N cs sl h2 (x1) (x2) (x3) ((0 : Int32)) (v5) (v4) (x2) (v3) hG (lv_sub hl [0, 1, 2, 3] rfl) hf
  · rw [if_neg hc7] at hf
    refine lv_iconst (v := 1) hx hb dL_law_821 (by decide) ?_
    refine lv_goto (tgt := 826) hx hb dL_law_822 (by decide) ?_
    exact w_L_law_826 hB hX hbl hk18 _ _ _ N cs sl h2 (x1) (x2) (x3) ((1 : Int32)) (v5) (v4) (x2) (v3) hG (lv_sub hl [0, 1, 2, 3] rfl) hf

set_option maxRecDepth 100000 in
set_option maxHeartbeats 4000000 in
theorem w_L_law_911 {L : Nat} {xs : Nat → Int32} (hB : zc_B p s m #[Value.ref bS] meth c cL_law 4 RL ret D K) (hX : va_X bS L xs s s.heap) (hbl : bS < s.heap.size) {k18 : Nat → Nat → Nat → zh_H → Nat → Nat → Int32 → Option Int32} (hk18 : ∀ (H : Heap) (locs : List Loc) (ls : Array Slot) (N cs sl : Nat) (h : zh_H) (x1 : Nat) (x2 : Nat) (x3 : Int32), zh_G D K s.heap.size N h s.heap H locs → lv_has ls 4 [(0, .ref bS), (1, .ref x1), (2, .ref x2), (3, .int x3)] → k18 N cs sl h x1 x2 x3 = some 1 → W p l e room_1 s m #[Value.ref bS] below meth c H locs cs sl (lw_Z below #[Value.ref bS] s) (F0 m 18 ls [])) : ∀ (H : Heap) (locs : List Loc) (ls : Array Slot) (N cs sl : Nat) (h : zh_H) (x1 : Nat) (x2 : Nat) (x3 : Int32) (y0 : Int32) (y1 : Int32) (y2 : Int32) (y3 : Int32) (y4 : Int32) (y5 : Nat) (y6 : Int32), zh_G D K s.heap.size N h s.heap H locs → lv_has ls 4 [(0, .ref bS), (1, .ref x1), (2, .ref x2), (3, .int x3)] → b_L_law_911 L xs k18 N cs sl h x1 x2 x3 y0 y1 y2 y3 y4 y5 y6 = some 1 → W p l e room_1 s m #[Value.ref bS] below meth c H locs cs sl (lw_Z below #[Value.ref bS] s) (F0 m 911 ls [.int y0, .int y1, .int y2, .int y3, .int y4, .ref y5, .int y6]) := by
  have hx := hB.1
  have hb := hB.2.1
  intro H locs ls N cs sl h x1 x2 x3 y0 y1 y2 y3 y4 y5 y6 hG hl hf
  unfold b_L_law_911 at hf
  refine lv_aload_n hx hb dL_law_911 rfl (lv_at hl 0 rfl) ?_
  refine lv_iload_n hx hb dL_law_912 rfl (lv_at hl 3 rfl) ?_
  refine lv_bipush (v := 6) hx hb dL_law_913 (by decide) ?_
  refine lv_iadd hx hb dL_law_915 ?_
  obtain ⟨v1, ev1, hf⟩ := zb hf
  refine zr_script hx hb hX hbl hG ev1 dL_law_916 ?_
  obtain ⟨o2, eo2, hf⟩ := zb hf
  obtain ⟨hz, hf⟩ := zif_s hf
  obtain ⟨v4, h3, eh3, hf⟩ := zbp_s hf
  refine zr_callV (As := [.int y4, .int y3, .int y2, .int y1, .int y0, .int v1]) kc_L_99 hB hG (c_X11_apart eh3) eo2 rfl hl.1 rfl ⟨by decide, by decide⟩ (Nat.le_of_ble_eq_true rfl) hz dL_law_917 (fun H locs hG => ?_)
  refine lv_icmp_eq (tgt := 925) hx hb dL_law_920 (by decide) (fun hc5 => ?_) (fun hc5 => ?_)
  · rw [if_pos hc5] at hf
    exact w_L_law_925 hB hX hbl hk18 _ _ _ N cs sl h3 (x1) (x2) (x3) hG (lv_sub hl [0, 1, 2, 3] rfl) hf
  · rw [if_neg hc5] at hf
    refine lv_iconst (v := 0) hx hb dL_law_923 (by decide) ?_
    exact absurd (Option.some.inj hf) (by decide)

set_option maxRecDepth 100000 in
set_option maxHeartbeats 4000000 in
theorem w_L_law_868 {L : Nat} {xs : Nat → Int32} (hB : zc_B p s m #[Value.ref bS] meth c cL_law 4 RL ret D K) (hX : va_X bS L xs s s.heap) (hbl : bS < s.heap.size) {k18 : Nat → Nat → Nat → zh_H → Nat → Nat → Int32 → Option Int32} (hk18 : ∀ (H : Heap) (locs : List Loc) (ls : Array Slot) (N cs sl : Nat) (h : zh_H) (x1 : Nat) (x2 : Nat) (x3 : Int32), zh_G D K s.heap.size N h s.heap H locs → lv_has ls 4 [(0, .ref bS), (1, .ref x1), (2, .ref x2), (3, .int x3)] → k18 N cs sl h x1 x2 x3 = some 1 → W p l e room_1 s m #[Value.ref bS] below meth c H locs cs sl (lw_Z below #[Value.ref bS] s) (F0 m 18 ls [])) : ∀ (H : Heap) (locs : List Loc) (ls : Array Slot) (N cs sl : Nat) (h : zh_H) (x1 : Nat) (x2 : Nat) (x3 : Int32) (y0 : Int32) (y1 : Int32) (y2 : Int32) (y3 : Int32) (y4 : Int32) (y5 : Nat), zh_G D K s.heap.size N h s.heap H locs → lv_has ls 4 [(0, .ref bS), (1, .ref x1), (2, .ref x2), (3, .int x3)] → b_L_law_868 L xs k18 N cs sl h x1 x2 x3 y0 y1 y2 y3 y4 y5 = some 1 → W p l e room_1 s m #[Value.ref bS] below meth c H locs cs sl (lw_Z below #[Value.ref bS] s) (F0 m 868 ls [.int y0, .int y1, .int y2, .int y3, .int y4, .ref y5]) := by
  have hx := hB.1
  have hb := hB.2.1
  intro H locs ls N cs sl h x1 x2 x3 y0 y1 y2 y3 y4 y5 hG hl hf
  unfold b_L_law_868 at hf
  refine lv_aload_n hx hb dL_law_868 rfl (lv_at hl 0 rfl) ?_
  refine lv_iload_n hx hb dL_law_869 rfl (lv_at hl 3 rfl) ?_
  refine lv_bipush (v := 6) hx hb dL_law_870 (by decide) ?_
  refine lv_iadd hx hb dL_law_872 ?_
  obtain ⟨v1, ev1, hf⟩ := zb hf
  refine zr_script hx hb hX hbl hG ev1 dL_law_873 ?_
  obtain ⟨o2, eo2, hf⟩ := zb hf
  obtain ⟨hz, hf⟩ := zif_s hf
  obtain ⟨v4, h3, eh3, hf⟩ := zbp_s hf
  refine zr_callV (As := [.int y4, .int y3, .int y2, .int y1, .int y0, .int v1]) kc_L_95 hB hG (c_X10_apart eh3) eo2 rfl hl.1 rfl ⟨by decide, by decide⟩ (Nat.le_of_ble_eq_true rfl) hz dL_law_874 (fun H locs hG => ?_)
  refine lv_aload_n hx hb dL_law_877 rfl (lv_at hl 2 rfl) ?_
  refine lv_aload_n hx hb dL_law_878 rfl (lv_at hl 0 rfl) ?_
  refine lv_iload_n hx hb dL_law_879 rfl (lv_at hl 3 rfl) ?_
  refine lv_iconst (v := 1) hx hb dL_law_880 (by decide) ?_
  refine lv_iadd hx hb dL_law_881 ?_
  obtain ⟨v5, ev5, hf⟩ := zb hf
  refine zr_script hx hb hX hbl hG ev5 dL_law_882 ?_
  refine lv_aload_n hx hb dL_law_883 rfl (lv_at hl 0 rfl) ?_
  refine lv_iload_n hx hb dL_law_884 rfl (lv_at hl 3 rfl) ?_
  refine lv_iconst (v := 2) hx hb dL_law_885 (by decide) ?_
  refine lv_iadd hx hb dL_law_886 ?_
  obtain ⟨v6, ev6, hf⟩ := zb hf
  refine zr_script hx hb hX hbl hG ev6 dL_law_887 ?_
  refine lv_aload_n hx hb dL_law_888 rfl (lv_at hl 0 rfl) ?_
  refine lv_iload_n hx hb dL_law_889 rfl (lv_at hl 3 rfl) ?_
  refine lv_iconst (v := 3) hx hb dL_law_890 (by decide) ?_
  refine lv_iadd hx hb dL_law_891 ?_
  obtain ⟨v7, ev7, hf⟩ := zb hf
  refine zr_script hx hb hX hbl hG ev7 dL_law_892 ?_
  refine lv_aload_n hx hb dL_law_893 rfl (lv_at hl 0 rfl) ?_
  refine lv_iload_n hx hb dL_law_894 rfl (lv_at hl 3 rfl) ?_
  refine lv_iconst (v := 4) hx hb dL_law_895 (by decide) ?_
  refine lv_iadd hx hb dL_law_896 ?_
  obtain ⟨v8, ev8, hf⟩ := zb hf
  refine zr_script hx hb hX hbl hG ev8 dL_law_897 ?_
  refine lv_aload_n hx hb dL_law_898 rfl (lv_at hl 0 rfl) ?_
  refine lv_iload_n hx hb dL_law_899 rfl (lv_at hl 3 rfl) ?_
  refine lv_iconst (v := 5) hx hb dL_law_900 (by decide) ?_
  refine lv_iadd hx hb dL_law_901 ?_
  obtain ⟨v9, ev9, hf⟩ := zb hf
  refine zr_script hx hb hX hbl hG ev9 dL_law_902 ?_
  refine lv_if_eq (tgt := 910) hx hb dL_law_903 (by decide) (fun hc10 => ?_) (fun hc10 => ?_)
  · rw [if_pos hc10] at hf
    refine lv_iconst (v := 0) hx hb dL_law_910 (by decide) ?_
    exact w_L_law_911 hB hX hbl hk18 _ _ _ N cs sl h3 (x1) (x2) (x3) ((0 : Int32)) (v8) (v7) (v6) (v5) (x2) (v4) hG (lv_sub hl [0, 1, 2, 3] rfl) hf
  · rw [if_neg hc10] at hf
    refine lv_iconst (v := 1) hx hb dL_law_906 (by decide) ?_
    refine lv_goto (tgt := 911) hx hb dL_law_907 (by decide) ?_
    exact w_L_law_911 hB hX hbl hk18 _ _ _ N cs sl h3 (x1) (x2) (x3) ((1 : Int32)) (v8) (v7) (v6) (v5) (x2) (v4) hG (lv_sub hl [0, 1, 2, 3] rfl) hf

set_option maxRecDepth 100000 in
set_option maxHeartbeats 4000000 in
theorem w_L_law_18 {L : Nat} {xs : Nat → Int32} (hB : zc_B p s m #[Value.ref bS] meth c cL_law 4 RL ret D K) (hX : va_X bS L xs s s.heap) (hbl : bS < s.heap.size) : ∀ n : Nat, ∀ (H : Heap) (locs : List Loc) (ls : Array Slot) (N cs sl : Nat) (h : zh_H) (x1 : Nat) (x2 : Nat) (x3 : Int32), zh_G D K s.heap.size N h s.heap H locs → lv_has ls 4 [(0, .ref bS), (1, .ref x1), (2, .ref x2), (3, .int x3)] → b_L_law_18 L xs  n N cs sl h x1 x2 x3 = some 1 → W p l e room_1 s m #[Value.ref bS] below meth c H locs cs sl (lw_Z below #[Value.ref bS] s) (F0 m 18 ls []) := by
  have hx := hB.1
  have hb := hB.2.1
  intro n
  induction n with
  | zero =>
    intro H locs ls N cs sl h x1 x2 x3 hG hl hf
    cases hf
  | succ n ih =>
    intro H locs ls N cs sl h x1 x2 x3 hG hl hf
    unfold b_L_law_18 at hf
    refine lv_iload_n hx hb dL_law_18 rfl (lv_at hl 3 rfl) ?_
    refine lv_aload_n hx hb dL_law_19 rfl (lv_at hl 0 rfl) ?_
    refine zr_slen hx hb hX hbl hG dL_law_20 ?_
    refine lv_bipush (v := 7) hx hb dL_law_21 (by decide) ?_
    refine lv_isub hx hb dL_law_23 ?_
    refine lv_icmp_gt (tgt := 931) hx hb dL_law_24 (by decide) (fun hc149 => ?_) (fun hc149 => ?_)
    · rw [if_pos hc149] at hf
      refine lv_iconst (v := 1) hx hb dL_law_931 (by decide) ?_
      obtain ⟨hz, hf⟩ := zif_s hf
      refine va_forget (fun q hq => hG.2.2.2 q hq) ?_
      refine W.widen (k := 600000) (n := 7302250) hz.1 hz.2 ?_
      exact lw_ret hx hb hB.2.2.2.2.2.1 hB.2.2.2.2.2.2.1 dL_law_932
    · rw [if_neg hc149] at hf
      refine lv_aload_n hx hb dL_law_27 rfl (lv_at hl 0 rfl) ?_
      refine lv_iload_n hx hb dL_law_28 rfl (lv_at hl 3 rfl) ?_
      obtain ⟨v1, ev1, hf⟩ := zb hf
      refine zr_script hx hb hX hbl hG ev1 dL_law_29 ?_
      refine lv_bipush (v := 31) hx hb dL_law_30 (by decide) ?_
      refine lv_iand hx hb dL_law_32 ?_
      by_cases hs2_0 : (v1 &&& (31 : Int32)) = (0 : Int32)
      · rw [if_pos hs2_0] at hf
        refine lv_tableIn (off := 91) (tgt := 124) hx hb dL_law_33 (by rw [hs2_0]; decide) (by rw [hs2_0]; decide) (by rw [hs2_0]; rfl) (by decide) ?_
        refine lv_aload_n hx hb dL_law_124 rfl (lv_at hl 1 rfl) ?_
        refine lv_aload_n hx hb dL_law_125 rfl (lv_at hl 0 rfl) ?_
        refine lv_iload_n hx hb dL_law_126 rfl (lv_at hl 3 rfl) ?_
        refine lv_iconst (v := 1) hx hb dL_law_127 (by decide) ?_
        refine lv_iadd hx hb dL_law_128 ?_
        obtain ⟨v3, ev3, hf⟩ := zb hf
        refine zr_script hx hb hX hbl hG ev3 dL_law_129 ?_
        refine lv_i2l hx hb dL_law_130 rfl ?_
        refine lv_bipush (v := 32) hx hb dL_law_131 (by decide) ?_
        refine lv_lshl hx hb dL_law_133 rfl ?_
        refine lv_aload_n hx hb dL_law_134 rfl (lv_at hl 0 rfl) ?_
        refine lv_iload_n hx hb dL_law_135 rfl (lv_at hl 3 rfl) ?_
        refine lv_iconst (v := 2) hx hb dL_law_136 (by decide) ?_
        refine lv_iadd hx hb dL_law_137 ?_
        obtain ⟨v4, ev4, hf⟩ := zb hf
        refine zr_script hx hb hX hbl hG ev4 dL_law_138 ?_
        refine lv_i2l hx hb dL_law_139 rfl ?_
        refine lv_ldc2 (v := 4294967295) hx hb hB.2.2.2.1 (hB.2.2.2.2.1 _ (zin kk_L_13 rfl)) dL_law_140 ?_
        refine lv_land hx hb dL_law_143 ?_
        refine lv_lor hx hb dL_law_144 ?_
        refine lv_aload_n hx hb dL_law_145 rfl (lv_at hl 0 rfl) ?_
        refine lv_iload_n hx hb dL_law_146 rfl (lv_at hl 3 rfl) ?_
        refine lv_iconst (v := 3) hx hb dL_law_147 (by decide) ?_
        refine lv_iadd hx hb dL_law_148 ?_
        obtain ⟨v5, ev5, hf⟩ := zb hf
        refine zr_script hx hb hX hbl hG ev5 dL_law_149 ?_
        obtain ⟨o6, eo6, hf⟩ := zb hf
        obtain ⟨hz, hf⟩ := zif_s hf
        obtain ⟨v8, h7, eh7, hf⟩ := zbp_s hf
        refine zr_callV (As := [.long ((((Int32.toInt64 v3) <<< (Int32.toInt64 (32 : Int32) &&& 63))) ||| ((Int32.toInt64 v4) &&& (4294967295 : Int64))), .int v5]) kc_L_15 hB hG (c_X10_type eh7) eo6 rfl hl.1 rfl ⟨by decide, by decide⟩ (Nat.le_of_ble_eq_true rfl) hz dL_law_150 (fun H locs hG => ?_)
        refine lv_aload_n hx hb dL_law_153 rfl (lv_at hl 2 rfl) ?_
        refine lv_aload_n hx hb dL_law_154 rfl (lv_at hl 0 rfl) ?_
        refine lv_iload_n hx hb dL_law_155 rfl (lv_at hl 3 rfl) ?_
        refine lv_iconst (v := 1) hx hb dL_law_156 (by decide) ?_
        refine lv_iadd hx hb dL_law_157 ?_
        obtain ⟨v9, ev9, hf⟩ := zb hf
        refine zr_script hx hb hX hbl hG ev9 dL_law_158 ?_
        refine lv_i2l hx hb dL_law_159 rfl ?_
        refine lv_bipush (v := 32) hx hb dL_law_160 (by decide) ?_
        refine lv_lshl hx hb dL_law_162 rfl ?_
        refine lv_aload_n hx hb dL_law_163 rfl (lv_at hl 0 rfl) ?_
        refine lv_iload_n hx hb dL_law_164 rfl (lv_at hl 3 rfl) ?_
        refine lv_iconst (v := 2) hx hb dL_law_165 (by decide) ?_
        refine lv_iadd hx hb dL_law_166 ?_
        obtain ⟨v10, ev10, hf⟩ := zb hf
        refine zr_script hx hb hX hbl hG ev10 dL_law_167 ?_
        refine lv_i2l hx hb dL_law_168 rfl ?_
        refine lv_ldc2 (v := 4294967295) hx hb hB.2.2.2.1 (hB.2.2.2.2.1 _ (zin kk_L_13 rfl)) dL_law_169 ?_
        refine lv_land hx hb dL_law_172 ?_
        refine lv_lor hx hb dL_law_173 ?_
        refine lv_aload_n hx hb dL_law_174 rfl (lv_at hl 0 rfl) ?_
        refine lv_iload_n hx hb dL_law_175 rfl (lv_at hl 3 rfl) ?_
        refine lv_iconst (v := 3) hx hb dL_law_176 (by decide) ?_
        refine lv_iadd hx hb dL_law_177 ?_
        obtain ⟨v11, ev11, hf⟩ := zb hf
        refine zr_script hx hb hX hbl hG ev11 dL_law_178 ?_
        obtain ⟨o12, eo12, hf⟩ := zb hf
        obtain ⟨hz, hf⟩ := zif_s hf
        obtain ⟨v14, h13, eh13, hf⟩ := zbp_s hf
        refine zr_callV (As := [.long ((((Int32.toInt64 v9) <<< (Int32.toInt64 (32 : Int32) &&& 63))) ||| ((Int32.toInt64 v10) &&& (4294967295 : Int64))), .int v11]) kc_L_19 hB hG (c_X11_type eh13) eo12 rfl hl.1 rfl ⟨by decide, by decide⟩ (Nat.le_of_ble_eq_true rfl) hz dL_law_179 (fun H locs hG => ?_)
        refine lv_icmp_eq (tgt := 925) hx hb dL_law_182 (by decide) (fun hc15 => ?_) (fun hc15 => ?_)
        · rw [if_pos hc15] at hf
          exact w_L_law_925 hB hX hbl ih _ _ _ N cs sl h13 (x1) (x2) (x3) hG (lv_sub hl [0, 1, 2, 3] rfl) hf
        · rw [if_neg hc15] at hf
          refine lv_iconst (v := 0) hx hb dL_law_185 (by decide) ?_
          exact absurd (Option.some.inj hf) (by decide)
      · rw [if_neg hs2_0] at hf
        by_cases hs2_1 : (v1 &&& (31 : Int32)) = (1 : Int32)
        · rw [if_pos hs2_1] at hf
          refine lv_tableIn (off := 154) (tgt := 187) hx hb dL_law_33 (by rw [hs2_1]; decide) (by rw [hs2_1]; decide) (by rw [hs2_1]; rfl) (by decide) ?_
          refine lv_aload_n hx hb dL_law_187 rfl (lv_at hl 1 rfl) ?_
          refine lv_aload_n hx hb dL_law_188 rfl (lv_at hl 0 rfl) ?_
          refine lv_iload_n hx hb dL_law_189 rfl (lv_at hl 3 rfl) ?_
          refine lv_iconst (v := 1) hx hb dL_law_190 (by decide) ?_
          refine lv_iadd hx hb dL_law_191 ?_
          obtain ⟨v16, ev16, hf⟩ := zb hf
          refine zr_script hx hb hX hbl hG ev16 dL_law_192 ?_
          obtain ⟨o17, eo17, hf⟩ := zb hf
          obtain ⟨hz, hf⟩ := zif_s hf
          obtain ⟨v19, h18, eh18, hf⟩ := zbp_s hf
          refine zr_callV (As := [.int v16]) kc_L_20 hB hG (c_X10_pattern eh18) eo17 rfl hl.1 rfl ⟨by decide, by decide⟩ (Nat.le_of_ble_eq_true rfl) hz dL_law_193 (fun H locs hG => ?_)
          refine lv_aload_n hx hb dL_law_196 rfl (lv_at hl 2 rfl) ?_
          refine lv_aload_n hx hb dL_law_197 rfl (lv_at hl 0 rfl) ?_
          refine lv_iload_n hx hb dL_law_198 rfl (lv_at hl 3 rfl) ?_
          refine lv_iconst (v := 1) hx hb dL_law_199 (by decide) ?_
          refine lv_iadd hx hb dL_law_200 ?_
          obtain ⟨v20, ev20, hf⟩ := zb hf
          refine zr_script hx hb hX hbl hG ev20 dL_law_201 ?_
          obtain ⟨o21, eo21, hf⟩ := zb hf
          obtain ⟨hz, hf⟩ := zif_s hf
          obtain ⟨v23, h22, eh22, hf⟩ := zbp_s hf
          refine zr_callV (As := [.int v20]) kc_L_24 hB hG (c_X11_pattern eh22) eo21 rfl hl.1 rfl ⟨by decide, by decide⟩ (Nat.le_of_ble_eq_true rfl) hz dL_law_202 (fun H locs hG => ?_)
          refine lv_icmp_eq (tgt := 925) hx hb dL_law_205 (by decide) (fun hc24 => ?_) (fun hc24 => ?_)
          · rw [if_pos hc24] at hf
            exact w_L_law_925 hB hX hbl ih _ _ _ N cs sl h22 (x1) (x2) (x3) hG (lv_sub hl [0, 1, 2, 3] rfl) hf
          · rw [if_neg hc24] at hf
            refine lv_iconst (v := 0) hx hb dL_law_208 (by decide) ?_
            exact absurd (Option.some.inj hf) (by decide)
        · rw [if_neg hs2_1] at hf
          by_cases hs2_2 : (v1 &&& (31 : Int32)) = (2 : Int32)
          · rw [if_pos hs2_2] at hf
            refine lv_tableIn (off := 177) (tgt := 210) hx hb dL_law_33 (by rw [hs2_2]; decide) (by rw [hs2_2]; decide) (by rw [hs2_2]; rfl) (by decide) ?_
            refine lv_aload_n hx hb dL_law_210 rfl (lv_at hl 1 rfl) ?_
            obtain ⟨o25, eo25, hf⟩ := zb hf
            obtain ⟨hz, hf⟩ := zif_s hf
            obtain ⟨v27, h26, eh26, hf⟩ := zbp_s hf
            refine zr_callV (As := []) kc_L_25 hB hG (c_X10_place eh26) eo25 rfl hl.1 rfl ⟨by decide, by decide⟩ (Nat.le_of_ble_eq_true rfl) hz dL_law_211 (fun H locs hG => ?_)
            refine lv_aload_n hx hb dL_law_214 rfl (lv_at hl 2 rfl) ?_
            obtain ⟨o28, eo28, hf⟩ := zb hf
            obtain ⟨hz, hf⟩ := zif_s hf
            obtain ⟨v30, h29, eh29, hf⟩ := zbp_s hf
            refine zr_callV (As := []) kc_L_29 hB hG (c_X11_place eh29) eo28 rfl hl.1 rfl ⟨by decide, by decide⟩ (Nat.le_of_ble_eq_true rfl) hz dL_law_215 (fun H locs hG => ?_)
            refine lv_icmp_eq (tgt := 925) hx hb dL_law_218 (by decide) (fun hc31 => ?_) (fun hc31 => ?_)
            · rw [if_pos hc31] at hf
              exact w_L_law_925 hB hX hbl ih _ _ _ N cs sl h29 (x1) (x2) (x3) hG (lv_sub hl [0, 1, 2, 3] rfl) hf
            · rw [if_neg hc31] at hf
              refine lv_iconst (v := 0) hx hb dL_law_221 (by decide) ?_
              exact absurd (Option.some.inj hf) (by decide)
          · rw [if_neg hs2_2] at hf
            by_cases hs2_3 : (v1 &&& (31 : Int32)) = (3 : Int32)
            · rw [if_pos hs2_3] at hf
              refine lv_tableIn (off := 190) (tgt := 223) hx hb dL_law_33 (by rw [hs2_3]; decide) (by rw [hs2_3]; decide) (by rw [hs2_3]; rfl) (by decide) ?_
              refine lv_aload_n hx hb dL_law_223 rfl (lv_at hl 1 rfl) ?_
              refine lv_aload_n hx hb dL_law_224 rfl (lv_at hl 0 rfl) ?_
              refine lv_iload_n hx hb dL_law_225 rfl (lv_at hl 3 rfl) ?_
              refine lv_iconst (v := 1) hx hb dL_law_226 (by decide) ?_
              refine lv_iadd hx hb dL_law_227 ?_
              obtain ⟨v32, ev32, hf⟩ := zb hf
              refine zr_script hx hb hX hbl hG ev32 dL_law_228 ?_
              refine lv_aload_n hx hb dL_law_229 rfl (lv_at hl 0 rfl) ?_
              refine lv_iload_n hx hb dL_law_230 rfl (lv_at hl 3 rfl) ?_
              refine lv_iconst (v := 2) hx hb dL_law_231 (by decide) ?_
              refine lv_iadd hx hb dL_law_232 ?_
              obtain ⟨v33, ev33, hf⟩ := zb hf
              refine zr_script hx hb hX hbl hG ev33 dL_law_233 ?_
              refine lv_aload_n hx hb dL_law_234 rfl (lv_at hl 0 rfl) ?_
              refine lv_iload_n hx hb dL_law_235 rfl (lv_at hl 3 rfl) ?_
              refine lv_iconst (v := 3) hx hb dL_law_236 (by decide) ?_
              refine lv_iadd hx hb dL_law_237 ?_
              obtain ⟨v34, ev34, hf⟩ := zb hf
              refine zr_script hx hb hX hbl hG ev34 dL_law_238 ?_
              obtain ⟨o35, eo35, hf⟩ := zb hf
              obtain ⟨hz, hf⟩ := zif_s hf
              obtain ⟨v37, h36, eh36, hf⟩ := zbp_s hf
              refine zr_callV (As := [.int v32, .int v33, .int v34]) kc_L_30 hB hG (c_X10_has eh36) eo35 rfl hl.1 rfl ⟨by decide, by decide⟩ (Nat.le_of_ble_eq_true rfl) hz dL_law_239 (fun H locs hG => ?_)
              refine lv_aload_n hx hb dL_law_242 rfl (lv_at hl 2 rfl) ?_
              refine lv_aload_n hx hb dL_law_243 rfl (lv_at hl 0 rfl) ?_
              refine lv_iload_n hx hb dL_law_244 rfl (lv_at hl 3 rfl) ?_
              refine lv_iconst (v := 1) hx hb dL_law_245 (by decide) ?_
              refine lv_iadd hx hb dL_law_246 ?_
              obtain ⟨v38, ev38, hf⟩ := zb hf
              refine zr_script hx hb hX hbl hG ev38 dL_law_247 ?_
              refine lv_aload_n hx hb dL_law_248 rfl (lv_at hl 0 rfl) ?_
              refine lv_iload_n hx hb dL_law_249 rfl (lv_at hl 3 rfl) ?_
              refine lv_iconst (v := 2) hx hb dL_law_250 (by decide) ?_
              refine lv_iadd hx hb dL_law_251 ?_
              obtain ⟨v39, ev39, hf⟩ := zb hf
              refine zr_script hx hb hX hbl hG ev39 dL_law_252 ?_
              refine lv_aload_n hx hb dL_law_253 rfl (lv_at hl 0 rfl) ?_
              refine lv_iload_n hx hb dL_law_254 rfl (lv_at hl 3 rfl) ?_
              refine lv_iconst (v := 3) hx hb dL_law_255 (by decide) ?_
              refine lv_iadd hx hb dL_law_256 ?_
              obtain ⟨v40, ev40, hf⟩ := zb hf
              refine zr_script hx hb hX hbl hG ev40 dL_law_257 ?_
              obtain ⟨o41, eo41, hf⟩ := zb hf
              obtain ⟨hz, hf⟩ := zif_s hf
              obtain ⟨v43, h42, eh42, hf⟩ := zbp_s hf
              refine zr_callV (As := [.int v38, .int v39, .int v40]) kc_L_34 hB hG (c_X11_has eh42) eo41 rfl hl.1 rfl ⟨by decide, by decide⟩ (Nat.le_of_ble_eq_true rfl) hz dL_law_258 (fun H locs hG => ?_)
              refine lv_icmp_eq (tgt := 925) hx hb dL_law_261 (by decide) (fun hc44 => ?_) (fun hc44 => ?_)
              · rw [if_pos hc44] at hf
                exact w_L_law_925 hB hX hbl ih _ _ _ N cs sl h42 (x1) (x2) (x3) hG (lv_sub hl [0, 1, 2, 3] rfl) hf
              · rw [if_neg hc44] at hf
                refine lv_iconst (v := 0) hx hb dL_law_264 (by decide) ?_
                exact absurd (Option.some.inj hf) (by decide)
            · rw [if_neg hs2_3] at hf
              by_cases hs2_4 : (v1 &&& (31 : Int32)) = (4 : Int32)
              · rw [if_pos hs2_4] at hf
                refine lv_tableIn (off := 233) (tgt := 266) hx hb dL_law_33 (by rw [hs2_4]; decide) (by rw [hs2_4]; decide) (by rw [hs2_4]; rfl) (by decide) ?_
                refine lv_aload_n hx hb dL_law_266 rfl (lv_at hl 1 rfl) ?_
                refine lv_aload_n hx hb dL_law_267 rfl (lv_at hl 0 rfl) ?_
                refine lv_iload_n hx hb dL_law_268 rfl (lv_at hl 3 rfl) ?_
                refine lv_iconst (v := 1) hx hb dL_law_269 (by decide) ?_
                refine lv_iadd hx hb dL_law_270 ?_
                obtain ⟨v45, ev45, hf⟩ := zb hf
                refine zr_script hx hb hX hbl hG ev45 dL_law_271 ?_
                obtain ⟨o46, eo46, hf⟩ := zb hf
                obtain ⟨hz, hf⟩ := zif_s hf
                obtain ⟨v48, h47, eh47, hf⟩ := zbp_s hf
                refine zr_callV (As := [.int v45]) kc_L_35 hB hG (c_X10_insert eh47) eo46 rfl hl.1 rfl ⟨by decide, by decide⟩ (Nat.le_of_ble_eq_true rfl) hz dL_law_272 (fun H locs hG => ?_)
                refine lv_aload_n hx hb dL_law_275 rfl (lv_at hl 2 rfl) ?_
                refine lv_aload_n hx hb dL_law_276 rfl (lv_at hl 0 rfl) ?_
                refine lv_iload_n hx hb dL_law_277 rfl (lv_at hl 3 rfl) ?_
                refine lv_iconst (v := 1) hx hb dL_law_278 (by decide) ?_
                refine lv_iadd hx hb dL_law_279 ?_
                obtain ⟨v49, ev49, hf⟩ := zb hf
                refine zr_script hx hb hX hbl hG ev49 dL_law_280 ?_
                obtain ⟨o50, eo50, hf⟩ := zb hf
                obtain ⟨hz, hf⟩ := zif_s hf
                obtain ⟨v52, h51, eh51, hf⟩ := zbp_s hf
                refine zr_callV (As := [.int v49]) kc_L_38 hB hG (c_X11_insert eh51) eo50 rfl hl.1 rfl ⟨by decide, by decide⟩ (Nat.le_of_ble_eq_true rfl) hz dL_law_281 (fun H locs hG => ?_)
                refine lv_icmp_eq (tgt := 925) hx hb dL_law_284 (by decide) (fun hc53 => ?_) (fun hc53 => ?_)
                · rw [if_pos hc53] at hf
                  exact w_L_law_925 hB hX hbl ih _ _ _ N cs sl h51 (x1) (x2) (x3) hG (lv_sub hl [0, 1, 2, 3] rfl) hf
                · rw [if_neg hc53] at hf
                  refine lv_iconst (v := 0) hx hb dL_law_287 (by decide) ?_
                  exact absurd (Option.some.inj hf) (by decide)
              · rw [if_neg hs2_4] at hf
                by_cases hs2_5 : (v1 &&& (31 : Int32)) = (5 : Int32)
                · rw [if_pos hs2_5] at hf
                  refine lv_tableIn (off := 256) (tgt := 289) hx hb dL_law_33 (by rw [hs2_5]; decide) (by rw [hs2_5]; decide) (by rw [hs2_5]; rfl) (by decide) ?_
                  refine lv_aload_n hx hb dL_law_289 rfl (lv_at hl 1 rfl) ?_
                  refine lv_aload_n hx hb dL_law_290 rfl (lv_at hl 0 rfl) ?_
                  refine lv_iload_n hx hb dL_law_291 rfl (lv_at hl 3 rfl) ?_
                  refine lv_iconst (v := 1) hx hb dL_law_292 (by decide) ?_
                  refine lv_iadd hx hb dL_law_293 ?_
                  obtain ⟨v54, ev54, hf⟩ := zb hf
                  refine zr_script hx hb hX hbl hG ev54 dL_law_294 ?_
                  refine lv_aload_n hx hb dL_law_295 rfl (lv_at hl 0 rfl) ?_
                  refine lv_iload_n hx hb dL_law_296 rfl (lv_at hl 3 rfl) ?_
                  refine lv_iconst (v := 2) hx hb dL_law_297 (by decide) ?_
                  refine lv_iadd hx hb dL_law_298 ?_
                  obtain ⟨v55, ev55, hf⟩ := zb hf
                  refine zr_script hx hb hX hbl hG ev55 dL_law_299 ?_
                  obtain ⟨o56, eo56, hf⟩ := zb hf
                  obtain ⟨hz, hf⟩ := zif_s hf
                  obtain ⟨v58, h57, eh57, hf⟩ := zbp_s hf
                  refine zr_callV (As := [.int v54, .int v55]) kc_L_39 hB hG (c_X10_cut eh57) eo56 rfl hl.1 rfl ⟨by decide, by decide⟩ (Nat.le_of_ble_eq_true rfl) hz dL_law_300 (fun H locs hG => ?_)
                  refine lv_aload_n hx hb dL_law_303 rfl (lv_at hl 2 rfl) ?_
                  refine lv_aload_n hx hb dL_law_304 rfl (lv_at hl 0 rfl) ?_
                  refine lv_iload_n hx hb dL_law_305 rfl (lv_at hl 3 rfl) ?_
                  refine lv_iconst (v := 1) hx hb dL_law_306 (by decide) ?_
                  refine lv_iadd hx hb dL_law_307 ?_
                  obtain ⟨v59, ev59, hf⟩ := zb hf
                  refine zr_script hx hb hX hbl hG ev59 dL_law_308 ?_
                  refine lv_aload_n hx hb dL_law_309 rfl (lv_at hl 0 rfl) ?_
                  refine lv_iload_n hx hb dL_law_310 rfl (lv_at hl 3 rfl) ?_
                  refine lv_iconst (v := 2) hx hb dL_law_311 (by decide) ?_
                  refine lv_iadd hx hb dL_law_312 ?_
                  obtain ⟨v60, ev60, hf⟩ := zb hf
                  refine zr_script hx hb hX hbl hG ev60 dL_law_313 ?_
                  obtain ⟨o61, eo61, hf⟩ := zb hf
                  obtain ⟨hz, hf⟩ := zif_s hf
                  obtain ⟨v63, h62, eh62, hf⟩ := zbp_s hf
                  refine zr_callV (As := [.int v59, .int v60]) kc_L_43 hB hG (c_X11_cut eh62) eo61 rfl hl.1 rfl ⟨by decide, by decide⟩ (Nat.le_of_ble_eq_true rfl) hz dL_law_314 (fun H locs hG => ?_)
                  refine lv_icmp_eq (tgt := 925) hx hb dL_law_317 (by decide) (fun hc64 => ?_) (fun hc64 => ?_)
                  · rw [if_pos hc64] at hf
                    exact w_L_law_925 hB hX hbl ih _ _ _ N cs sl h62 (x1) (x2) (x3) hG (lv_sub hl [0, 1, 2, 3] rfl) hf
                  · rw [if_neg hc64] at hf
                    refine lv_iconst (v := 0) hx hb dL_law_320 (by decide) ?_
                    exact absurd (Option.some.inj hf) (by decide)
                · rw [if_neg hs2_5] at hf
                  by_cases hs2_6 : (v1 &&& (31 : Int32)) = (6 : Int32)
                  · rw [if_pos hs2_6] at hf
                    refine lv_tableIn (off := 289) (tgt := 322) hx hb dL_law_33 (by rw [hs2_6]; decide) (by rw [hs2_6]; decide) (by rw [hs2_6]; rfl) (by decide) ?_
                    refine lv_aload_n hx hb dL_law_322 rfl (lv_at hl 1 rfl) ?_
                    obtain ⟨o65, eo65, hf⟩ := zb hf
                    obtain ⟨hz, hf⟩ := zif_s hf
                    obtain ⟨v67, h66, eh66, hf⟩ := zbp_s hf
                    refine zr_callV (As := []) kc_L_44 hB hG (c_X10_undo eh66) eo65 rfl hl.1 rfl ⟨by decide, by decide⟩ (Nat.le_of_ble_eq_true rfl) hz dL_law_323 (fun H locs hG => ?_)
                    refine lv_aload_n hx hb dL_law_326 rfl (lv_at hl 2 rfl) ?_
                    obtain ⟨o68, eo68, hf⟩ := zb hf
                    obtain ⟨hz, hf⟩ := zif_s hf
                    obtain ⟨v70, h69, eh69, hf⟩ := zbp_s hf
                    refine zr_callV (As := []) kc_L_47 hB hG (c_X11_undo eh69) eo68 rfl hl.1 rfl ⟨by decide, by decide⟩ (Nat.le_of_ble_eq_true rfl) hz dL_law_327 (fun H locs hG => ?_)
                    refine lv_icmp_eq (tgt := 925) hx hb dL_law_330 (by decide) (fun hc71 => ?_) (fun hc71 => ?_)
                    · rw [if_pos hc71] at hf
                      exact w_L_law_925 hB hX hbl ih _ _ _ N cs sl h69 (x1) (x2) (x3) hG (lv_sub hl [0, 1, 2, 3] rfl) hf
                    · rw [if_neg hc71] at hf
                      refine lv_iconst (v := 0) hx hb dL_law_333 (by decide) ?_
                      exact absurd (Option.some.inj hf) (by decide)
                  · rw [if_neg hs2_6] at hf
                    by_cases hs2_7 : (v1 &&& (31 : Int32)) = (7 : Int32)
                    · rw [if_pos hs2_7] at hf
                      refine lv_tableIn (off := 302) (tgt := 335) hx hb dL_law_33 (by rw [hs2_7]; decide) (by rw [hs2_7]; decide) (by rw [hs2_7]; rfl) (by decide) ?_
                      refine lv_aload_n hx hb dL_law_335 rfl (lv_at hl 1 rfl) ?_
                      refine lv_aload_n hx hb dL_law_336 rfl (lv_at hl 0 rfl) ?_
                      refine lv_iload_n hx hb dL_law_337 rfl (lv_at hl 3 rfl) ?_
                      refine lv_iconst (v := 1) hx hb dL_law_338 (by decide) ?_
                      refine lv_iadd hx hb dL_law_339 ?_
                      obtain ⟨v72, ev72, hf⟩ := zb hf
                      refine zr_script hx hb hX hbl hG ev72 dL_law_340 ?_
                      obtain ⟨o73, eo73, hf⟩ := zb hf
                      obtain ⟨hz, hf⟩ := zif_s hf
                      obtain ⟨v75, h74, eh74, hf⟩ := zbp_s hf
                      refine zr_callV (As := [.int v72]) kc_L_48 hB hG (c_X10_byteAt eh74) eo73 rfl hl.1 rfl ⟨by decide, by decide⟩ (Nat.le_of_ble_eq_true rfl) hz dL_law_341 (fun H locs hG => ?_)
                      refine lv_aload_n hx hb dL_law_344 rfl (lv_at hl 2 rfl) ?_
                      refine lv_aload_n hx hb dL_law_345 rfl (lv_at hl 0 rfl) ?_
                      refine lv_iload_n hx hb dL_law_346 rfl (lv_at hl 3 rfl) ?_
                      refine lv_iconst (v := 1) hx hb dL_law_347 (by decide) ?_
                      refine lv_iadd hx hb dL_law_348 ?_
                      obtain ⟨v76, ev76, hf⟩ := zb hf
                      refine zr_script hx hb hX hbl hG ev76 dL_law_349 ?_
                      obtain ⟨o77, eo77, hf⟩ := zb hf
                      obtain ⟨hz, hf⟩ := zif_s hf
                      obtain ⟨v79, h78, eh78, hf⟩ := zbp_s hf
                      refine zr_callV (As := [.int v76]) kc_L_51 hB hG (c_X11_byteAt eh78) eo77 rfl hl.1 rfl ⟨by decide, by decide⟩ (Nat.le_of_ble_eq_true rfl) hz dL_law_350 (fun H locs hG => ?_)
                      refine lv_icmp_eq (tgt := 925) hx hb dL_law_353 (by decide) (fun hc80 => ?_) (fun hc80 => ?_)
                      · rw [if_pos hc80] at hf
                        exact w_L_law_925 hB hX hbl ih _ _ _ N cs sl h78 (x1) (x2) (x3) hG (lv_sub hl [0, 1, 2, 3] rfl) hf
                      · rw [if_neg hc80] at hf
                        refine lv_iconst (v := 0) hx hb dL_law_356 (by decide) ?_
                        exact absurd (Option.some.inj hf) (by decide)
                    · rw [if_neg hs2_7] at hf
                      by_cases hs2_8 : (v1 &&& (31 : Int32)) = (8 : Int32)
                      · rw [if_pos hs2_8] at hf
                        refine lv_tableIn (off := 325) (tgt := 358) hx hb dL_law_33 (by rw [hs2_8]; decide) (by rw [hs2_8]; decide) (by rw [hs2_8]; rfl) (by decide) ?_
                        refine lv_aload_n hx hb dL_law_358 rfl (lv_at hl 1 rfl) ?_
                        obtain ⟨o81, eo81, hf⟩ := zb hf
                        obtain ⟨hz, hf⟩ := zif_s hf
                        obtain ⟨v83, h82, eh82, hf⟩ := zbp_s hf
                        refine zr_callV (As := []) kc_L_52 hB hG (c_X10_length eh82) eo81 rfl hl.1 rfl ⟨by decide, by decide⟩ (Nat.le_of_ble_eq_true rfl) hz dL_law_359 (fun H locs hG => ?_)
                        refine lv_aload_n hx hb dL_law_362 rfl (lv_at hl 2 rfl) ?_
                        obtain ⟨o84, eo84, hf⟩ := zb hf
                        obtain ⟨hz, hf⟩ := zif_s hf
                        obtain ⟨v86, h85, eh85, hf⟩ := zbp_s hf
                        refine zr_callV (As := []) kc_L_55 hB hG (c_X11_length eh85) eo84 rfl hl.1 rfl ⟨by decide, by decide⟩ (Nat.le_of_ble_eq_true rfl) hz dL_law_363 (fun H locs hG => ?_)
                        refine lv_icmp_eq (tgt := 925) hx hb dL_law_366 (by decide) (fun hc87 => ?_) (fun hc87 => ?_)
                        · rw [if_pos hc87] at hf
                          exact w_L_law_925 hB hX hbl ih _ _ _ N cs sl h85 (x1) (x2) (x3) hG (lv_sub hl [0, 1, 2, 3] rfl) hf
                        · rw [if_neg hc87] at hf
                          refine lv_iconst (v := 0) hx hb dL_law_369 (by decide) ?_
                          exact absurd (Option.some.inj hf) (by decide)
                      · rw [if_neg hs2_8] at hf
                        by_cases hs2_9 : (v1 &&& (31 : Int32)) = (9 : Int32)
                        · rw [if_pos hs2_9] at hf
                          refine lv_tableIn (off := 338) (tgt := 371) hx hb dL_law_33 (by rw [hs2_9]; decide) (by rw [hs2_9]; decide) (by rw [hs2_9]; rfl) (by decide) ?_
                          refine lv_aload_n hx hb dL_law_371 rfl (lv_at hl 1 rfl) ?_
                          refine lv_aload_n hx hb dL_law_372 rfl (lv_at hl 0 rfl) ?_
                          refine lv_iload_n hx hb dL_law_373 rfl (lv_at hl 3 rfl) ?_
                          refine lv_iconst (v := 1) hx hb dL_law_374 (by decide) ?_
                          refine lv_iadd hx hb dL_law_375 ?_
                          obtain ⟨v88, ev88, hf⟩ := zb hf
                          refine zr_script hx hb hX hbl hG ev88 dL_law_376 ?_
                          refine lv_aload_n hx hb dL_law_377 rfl (lv_at hl 0 rfl) ?_
                          refine lv_iload_n hx hb dL_law_378 rfl (lv_at hl 3 rfl) ?_
                          refine lv_iconst (v := 2) hx hb dL_law_379 (by decide) ?_
                          refine lv_iadd hx hb dL_law_380 ?_
                          obtain ⟨v89, ev89, hf⟩ := zb hf
                          refine zr_script hx hb hX hbl hG ev89 dL_law_381 ?_
                          refine lv_aload_n hx hb dL_law_382 rfl (lv_at hl 0 rfl) ?_
                          refine lv_iload_n hx hb dL_law_383 rfl (lv_at hl 3 rfl) ?_
                          refine lv_iconst (v := 3) hx hb dL_law_384 (by decide) ?_
                          refine lv_iadd hx hb dL_law_385 ?_
                          obtain ⟨v90, ev90, hf⟩ := zb hf
                          refine zr_script hx hb hX hbl hG ev90 dL_law_386 ?_
                          refine lv_if_eq (tgt := 394) hx hb dL_law_387 (by decide) (fun hc91 => ?_) (fun hc91 => ?_)
                          · rw [if_pos hc91] at hf
                            refine lv_iconst (v := 0) hx hb dL_law_394 (by decide) ?_
                            exact w_L_law_395 hB hX hbl ih _ _ _ N cs sl h (x1) (x2) (x3) ((0 : Int32)) (v89) (v88) (x1) hG (lv_sub hl [0, 1, 2, 3] rfl) hf
                          · rw [if_neg hc91] at hf
                            refine lv_iconst (v := 1) hx hb dL_law_390 (by decide) ?_
                            refine lv_goto (tgt := 395) hx hb dL_law_391 (by decide) ?_
                            exact w_L_law_395 hB hX hbl ih _ _ _ N cs sl h (x1) (x2) (x3) ((1 : Int32)) (v89) (v88) (x1) hG (lv_sub hl [0, 1, 2, 3] rfl) hf
                        · rw [if_neg hs2_9] at hf
                          by_cases hs2_10 : (v1 &&& (31 : Int32)) = (10 : Int32)
                          · rw [if_pos hs2_10] at hf
                            refine lv_tableIn (off := 397) (tgt := 430) hx hb dL_law_33 (by rw [hs2_10]; decide) (by rw [hs2_10]; decide) (by rw [hs2_10]; rfl) (by decide) ?_
                            refine lv_aload_n hx hb dL_law_430 rfl (lv_at hl 1 rfl) ?_
                            refine lv_aload_n hx hb dL_law_431 rfl (lv_at hl 0 rfl) ?_
                            refine lv_iload_n hx hb dL_law_432 rfl (lv_at hl 3 rfl) ?_
                            refine lv_iconst (v := 1) hx hb dL_law_433 (by decide) ?_
                            refine lv_iadd hx hb dL_law_434 ?_
                            obtain ⟨v92, ev92, hf⟩ := zb hf
                            refine zr_script hx hb hX hbl hG ev92 dL_law_435 ?_
                            refine lv_aload_n hx hb dL_law_436 rfl (lv_at hl 0 rfl) ?_
                            refine lv_iload_n hx hb dL_law_437 rfl (lv_at hl 3 rfl) ?_
                            refine lv_iconst (v := 2) hx hb dL_law_438 (by decide) ?_
                            refine lv_iadd hx hb dL_law_439 ?_
                            obtain ⟨v93, ev93, hf⟩ := zb hf
                            refine zr_script hx hb hX hbl hG ev93 dL_law_440 ?_
                            obtain ⟨o94, eo94, hf⟩ := zb hf
                            obtain ⟨hz, hf⟩ := zif_s hf
                            obtain ⟨v96, h95, eh95, hf⟩ := zbp_s hf
                            refine zr_callV (As := [.int v92, .int v93]) kc_L_61 hB hG (c_X10_hit eh95) eo94 rfl hl.1 rfl ⟨by decide, by decide⟩ (Nat.le_of_ble_eq_true rfl) hz dL_law_441 (fun H locs hG => ?_)
                            refine lv_aload_n hx hb dL_law_444 rfl (lv_at hl 2 rfl) ?_
                            refine lv_aload_n hx hb dL_law_445 rfl (lv_at hl 0 rfl) ?_
                            refine lv_iload_n hx hb dL_law_446 rfl (lv_at hl 3 rfl) ?_
                            refine lv_iconst (v := 1) hx hb dL_law_447 (by decide) ?_
                            refine lv_iadd hx hb dL_law_448 ?_
                            obtain ⟨v97, ev97, hf⟩ := zb hf
                            refine zr_script hx hb hX hbl hG ev97 dL_law_449 ?_
                            refine lv_aload_n hx hb dL_law_450 rfl (lv_at hl 0 rfl) ?_
                            refine lv_iload_n hx hb dL_law_451 rfl (lv_at hl 3 rfl) ?_
                            refine lv_iconst (v := 2) hx hb dL_law_452 (by decide) ?_
                            refine lv_iadd hx hb dL_law_453 ?_
                            obtain ⟨v98, ev98, hf⟩ := zb hf
                            refine zr_script hx hb hX hbl hG ev98 dL_law_454 ?_
                            obtain ⟨o99, eo99, hf⟩ := zb hf
                            obtain ⟨hz, hf⟩ := zif_s hf
                            obtain ⟨v101, h100, eh100, hf⟩ := zbp_s hf
                            refine zr_callV (As := [.int v97, .int v98]) kc_L_64 hB hG (c_X11_hit eh100) eo99 rfl hl.1 rfl ⟨by decide, by decide⟩ (Nat.le_of_ble_eq_true rfl) hz dL_law_455 (fun H locs hG => ?_)
                            refine lv_icmp_eq (tgt := 925) hx hb dL_law_458 (by decide) (fun hc102 => ?_) (fun hc102 => ?_)
                            · rw [if_pos hc102] at hf
                              exact w_L_law_925 hB hX hbl ih _ _ _ N cs sl h100 (x1) (x2) (x3) hG (lv_sub hl [0, 1, 2, 3] rfl) hf
                            · rw [if_neg hc102] at hf
                              refine lv_iconst (v := 0) hx hb dL_law_461 (by decide) ?_
                              exact absurd (Option.some.inj hf) (by decide)
                          · rw [if_neg hs2_10] at hf
                            by_cases hs2_11 : (v1 &&& (31 : Int32)) = (11 : Int32)
                            · rw [if_pos hs2_11] at hf
                              refine lv_tableIn (off := 430) (tgt := 463) hx hb dL_law_33 (by rw [hs2_11]; decide) (by rw [hs2_11]; decide) (by rw [hs2_11]; rfl) (by decide) ?_
                              refine lv_aload_n hx hb dL_law_463 rfl (lv_at hl 1 rfl) ?_
                              refine lv_aload_n hx hb dL_law_464 rfl (lv_at hl 0 rfl) ?_
                              refine lv_iload_n hx hb dL_law_465 rfl (lv_at hl 3 rfl) ?_
                              refine lv_iconst (v := 1) hx hb dL_law_466 (by decide) ?_
                              refine lv_iadd hx hb dL_law_467 ?_
                              obtain ⟨v103, ev103, hf⟩ := zb hf
                              refine zr_script hx hb hX hbl hG ev103 dL_law_468 ?_
                              refine lv_aload_n hx hb dL_law_469 rfl (lv_at hl 0 rfl) ?_
                              refine lv_iload_n hx hb dL_law_470 rfl (lv_at hl 3 rfl) ?_
                              refine lv_iconst (v := 2) hx hb dL_law_471 (by decide) ?_
                              refine lv_iadd hx hb dL_law_472 ?_
                              obtain ⟨v104, ev104, hf⟩ := zb hf
                              refine zr_script hx hb hX hbl hG ev104 dL_law_473 ?_
                              obtain ⟨o105, eo105, hf⟩ := zb hf
                              obtain ⟨hz, hf⟩ := zif_s hf
                              obtain ⟨v107, h106, eh106, hf⟩ := zbp_s hf
                              refine zr_callV (As := [.int v103, .int v104]) kc_L_65 hB hG (c_X10_step eh106) eo105 rfl hl.1 rfl ⟨by decide, by decide⟩ (Nat.le_of_ble_eq_true rfl) hz dL_law_474 (fun H locs hG => ?_)
                              refine lv_aload_n hx hb dL_law_477 rfl (lv_at hl 2 rfl) ?_
                              refine lv_aload_n hx hb dL_law_478 rfl (lv_at hl 0 rfl) ?_
                              refine lv_iload_n hx hb dL_law_479 rfl (lv_at hl 3 rfl) ?_
                              refine lv_iconst (v := 1) hx hb dL_law_480 (by decide) ?_
                              refine lv_iadd hx hb dL_law_481 ?_
                              obtain ⟨v108, ev108, hf⟩ := zb hf
                              refine zr_script hx hb hX hbl hG ev108 dL_law_482 ?_
                              refine lv_aload_n hx hb dL_law_483 rfl (lv_at hl 0 rfl) ?_
                              refine lv_iload_n hx hb dL_law_484 rfl (lv_at hl 3 rfl) ?_
                              refine lv_iconst (v := 2) hx hb dL_law_485 (by decide) ?_
                              refine lv_iadd hx hb dL_law_486 ?_
                              obtain ⟨v109, ev109, hf⟩ := zb hf
                              refine zr_script hx hb hX hbl hG ev109 dL_law_487 ?_
                              obtain ⟨o110, eo110, hf⟩ := zb hf
                              obtain ⟨hz, hf⟩ := zif_s hf
                              obtain ⟨v112, h111, eh111, hf⟩ := zbp_s hf
                              refine zr_callV (As := [.int v108, .int v109]) kc_L_68 hB hG (c_X11_step eh111) eo110 rfl hl.1 rfl ⟨by decide, by decide⟩ (Nat.le_of_ble_eq_true rfl) hz dL_law_488 (fun H locs hG => ?_)
                              refine lv_icmp_eq (tgt := 925) hx hb dL_law_491 (by decide) (fun hc113 => ?_) (fun hc113 => ?_)
                              · rw [if_pos hc113] at hf
                                exact w_L_law_925 hB hX hbl ih _ _ _ N cs sl h111 (x1) (x2) (x3) hG (lv_sub hl [0, 1, 2, 3] rfl) hf
                              · rw [if_neg hc113] at hf
                                refine lv_iconst (v := 0) hx hb dL_law_494 (by decide) ?_
                                exact absurd (Option.some.inj hf) (by decide)
                            · rw [if_neg hs2_11] at hf
                              by_cases hs2_12 : (v1 &&& (31 : Int32)) = (12 : Int32)
                              · rw [if_pos hs2_12] at hf
                                refine lv_tableIn (off := 463) (tgt := 496) hx hb dL_law_33 (by rw [hs2_12]; decide) (by rw [hs2_12]; decide) (by rw [hs2_12]; rfl) (by decide) ?_
                                refine lv_aload_n hx hb dL_law_496 rfl (lv_at hl 1 rfl) ?_
                                refine lv_aload_n hx hb dL_law_497 rfl (lv_at hl 0 rfl) ?_
                                refine lv_iload_n hx hb dL_law_498 rfl (lv_at hl 3 rfl) ?_
                                refine lv_iconst (v := 1) hx hb dL_law_499 (by decide) ?_
                                refine lv_iadd hx hb dL_law_500 ?_
                                obtain ⟨v114, ev114, hf⟩ := zb hf
                                refine zr_script hx hb hX hbl hG ev114 dL_law_501 ?_
                                refine lv_aload_n hx hb dL_law_502 rfl (lv_at hl 0 rfl) ?_
                                refine lv_iload_n hx hb dL_law_503 rfl (lv_at hl 3 rfl) ?_
                                refine lv_iconst (v := 2) hx hb dL_law_504 (by decide) ?_
                                refine lv_iadd hx hb dL_law_505 ?_
                                obtain ⟨v115, ev115, hf⟩ := zb hf
                                refine zr_script hx hb hX hbl hG ev115 dL_law_506 ?_
                                refine lv_if_eq (tgt := 514) hx hb dL_law_507 (by decide) (fun hc116 => ?_) (fun hc116 => ?_)
                                · rw [if_pos hc116] at hf
                                  refine lv_iconst (v := 0) hx hb dL_law_514 (by decide) ?_
                                  exact w_L_law_515 hB hX hbl ih _ _ _ N cs sl h (x1) (x2) (x3) ((0 : Int32)) (v114) (x1) hG (lv_sub hl [0, 1, 2, 3] rfl) hf
                                · rw [if_neg hc116] at hf
                                  refine lv_iconst (v := 1) hx hb dL_law_510 (by decide) ?_
                                  refine lv_goto (tgt := 515) hx hb dL_law_511 (by decide) ?_
                                  exact w_L_law_515 hB hX hbl ih _ _ _ N cs sl h (x1) (x2) (x3) ((1 : Int32)) (v114) (x1) hG (lv_sub hl [0, 1, 2, 3] rfl) hf
                              · rw [if_neg hs2_12] at hf
                                by_cases hs2_13 : (v1 &&& (31 : Int32)) = (13 : Int32)
                                · rw [if_pos hs2_13] at hf
                                  refine lv_tableIn (off := 522) (tgt := 555) hx hb dL_law_33 (by rw [hs2_13]; decide) (by rw [hs2_13]; decide) (by rw [hs2_13]; rfl) (by decide) ?_
                                  refine lv_aload_n hx hb dL_law_555 rfl (lv_at hl 1 rfl) ?_
                                  refine lv_aload_n hx hb dL_law_556 rfl (lv_at hl 0 rfl) ?_
                                  refine lv_iload_n hx hb dL_law_557 rfl (lv_at hl 3 rfl) ?_
                                  refine lv_iconst (v := 1) hx hb dL_law_558 (by decide) ?_
                                  refine lv_iadd hx hb dL_law_559 ?_
                                  obtain ⟨v117, ev117, hf⟩ := zb hf
                                  refine zr_script hx hb hX hbl hG ev117 dL_law_560 ?_
                                  refine lv_aload_n hx hb dL_law_561 rfl (lv_at hl 0 rfl) ?_
                                  refine lv_iload_n hx hb dL_law_562 rfl (lv_at hl 3 rfl) ?_
                                  refine lv_iconst (v := 2) hx hb dL_law_563 (by decide) ?_
                                  refine lv_iadd hx hb dL_law_564 ?_
                                  obtain ⟨v118, ev118, hf⟩ := zb hf
                                  refine zr_script hx hb hX hbl hG ev118 dL_law_565 ?_
                                  refine lv_aload_n hx hb dL_law_566 rfl (lv_at hl 0 rfl) ?_
                                  refine lv_iload_n hx hb dL_law_567 rfl (lv_at hl 3 rfl) ?_
                                  refine lv_iconst (v := 3) hx hb dL_law_568 (by decide) ?_
                                  refine lv_iadd hx hb dL_law_569 ?_
                                  obtain ⟨v119, ev119, hf⟩ := zb hf
                                  refine zr_script hx hb hX hbl hG ev119 dL_law_570 ?_
                                  refine lv_if_eq (tgt := 578) hx hb dL_law_571 (by decide) (fun hc120 => ?_) (fun hc120 => ?_)
                                  · rw [if_pos hc120] at hf
                                    refine lv_iconst (v := 0) hx hb dL_law_578 (by decide) ?_
                                    exact w_L_law_579 hB hX hbl ih _ _ _ N cs sl h (x1) (x2) (x3) ((0 : Int32)) (v118) (v117) (x1) hG (lv_sub hl [0, 1, 2, 3] rfl) hf
                                  · rw [if_neg hc120] at hf
                                    refine lv_iconst (v := 1) hx hb dL_law_574 (by decide) ?_
                                    refine lv_goto (tgt := 579) hx hb dL_law_575 (by decide) ?_
                                    exact w_L_law_579 hB hX hbl ih _ _ _ N cs sl h (x1) (x2) (x3) ((1 : Int32)) (v118) (v117) (x1) hG (lv_sub hl [0, 1, 2, 3] rfl) hf
                                · rw [if_neg hs2_13] at hf
                                  by_cases hs2_14 : (v1 &&& (31 : Int32)) = (14 : Int32)
                                  · rw [if_pos hs2_14] at hf
                                    refine lv_tableIn (off := 581) (tgt := 614) hx hb dL_law_33 (by rw [hs2_14]; decide) (by rw [hs2_14]; decide) (by rw [hs2_14]; rfl) (by decide) ?_
                                    refine lv_aload_n hx hb dL_law_614 rfl (lv_at hl 1 rfl) ?_
                                    refine lv_aload_n hx hb dL_law_615 rfl (lv_at hl 0 rfl) ?_
                                    refine lv_iload_n hx hb dL_law_616 rfl (lv_at hl 3 rfl) ?_
                                    refine lv_iconst (v := 1) hx hb dL_law_617 (by decide) ?_
                                    refine lv_iadd hx hb dL_law_618 ?_
                                    obtain ⟨v121, ev121, hf⟩ := zb hf
                                    refine zr_script hx hb hX hbl hG ev121 dL_law_619 ?_
                                    obtain ⟨o122, eo122, hf⟩ := zb hf
                                    obtain ⟨hz, hf⟩ := zif_s hf
                                    obtain ⟨v124, h123, eh123, hf⟩ := zbp_s hf
                                    refine zr_callV (As := [.int v121]) kc_L_78 hB hG (c_X10_line eh123) eo122 rfl hl.1 rfl ⟨by decide, by decide⟩ (Nat.le_of_ble_eq_true rfl) hz dL_law_620 (fun H locs hG => ?_)
                                    refine lv_aload_n hx hb dL_law_623 rfl (lv_at hl 2 rfl) ?_
                                    refine lv_aload_n hx hb dL_law_624 rfl (lv_at hl 0 rfl) ?_
                                    refine lv_iload_n hx hb dL_law_625 rfl (lv_at hl 3 rfl) ?_
                                    refine lv_iconst (v := 1) hx hb dL_law_626 (by decide) ?_
                                    refine lv_iadd hx hb dL_law_627 ?_
                                    obtain ⟨v125, ev125, hf⟩ := zb hf
                                    refine zr_script hx hb hX hbl hG ev125 dL_law_628 ?_
                                    obtain ⟨o126, eo126, hf⟩ := zb hf
                                    obtain ⟨hz, hf⟩ := zif_s hf
                                    obtain ⟨v128, h127, eh127, hf⟩ := zbp_s hf
                                    refine zr_callV (As := [.int v125]) kc_L_81 hB hG (c_X11_line eh127) eo126 rfl hl.1 rfl ⟨by decide, by decide⟩ (Nat.le_of_ble_eq_true rfl) hz dL_law_629 (fun H locs hG => ?_)
                                    refine lv_icmp_eq (tgt := 925) hx hb dL_law_632 (by decide) (fun hc129 => ?_) (fun hc129 => ?_)
                                    · rw [if_pos hc129] at hf
                                      exact w_L_law_925 hB hX hbl ih _ _ _ N cs sl h127 (x1) (x2) (x3) hG (lv_sub hl [0, 1, 2, 3] rfl) hf
                                    · rw [if_neg hc129] at hf
                                      refine lv_iconst (v := 0) hx hb dL_law_635 (by decide) ?_
                                      exact absurd (Option.some.inj hf) (by decide)
                                  · rw [if_neg hs2_14] at hf
                                    by_cases hs2_15 : (v1 &&& (31 : Int32)) = (15 : Int32)
                                    · rw [if_pos hs2_15] at hf
                                      refine lv_tableIn (off := 604) (tgt := 637) hx hb dL_law_33 (by rw [hs2_15]; decide) (by rw [hs2_15]; decide) (by rw [hs2_15]; rfl) (by decide) ?_
                                      refine lv_aload_n hx hb dL_law_637 rfl (lv_at hl 1 rfl) ?_
                                      refine lv_aload_n hx hb dL_law_638 rfl (lv_at hl 0 rfl) ?_
                                      refine lv_iload_n hx hb dL_law_639 rfl (lv_at hl 3 rfl) ?_
                                      refine lv_iconst (v := 1) hx hb dL_law_640 (by decide) ?_
                                      refine lv_iadd hx hb dL_law_641 ?_
                                      obtain ⟨v130, ev130, hf⟩ := zb hf
                                      refine zr_script hx hb hX hbl hG ev130 dL_law_642 ?_
                                      refine lv_aload_n hx hb dL_law_643 rfl (lv_at hl 0 rfl) ?_
                                      refine lv_iload_n hx hb dL_law_644 rfl (lv_at hl 3 rfl) ?_
                                      refine lv_iconst (v := 2) hx hb dL_law_645 (by decide) ?_
                                      refine lv_iadd hx hb dL_law_646 ?_
                                      obtain ⟨v131, ev131, hf⟩ := zb hf
                                      refine zr_script hx hb hX hbl hG ev131 dL_law_647 ?_
                                      refine lv_aload_n hx hb dL_law_648 rfl (lv_at hl 0 rfl) ?_
                                      refine lv_iload_n hx hb dL_law_649 rfl (lv_at hl 3 rfl) ?_
                                      refine lv_iconst (v := 3) hx hb dL_law_650 (by decide) ?_
                                      refine lv_iadd hx hb dL_law_651 ?_
                                      obtain ⟨v132, ev132, hf⟩ := zb hf
                                      refine zr_script hx hb hX hbl hG ev132 dL_law_652 ?_
                                      refine lv_if_eq (tgt := 660) hx hb dL_law_653 (by decide) (fun hc133 => ?_) (fun hc133 => ?_)
                                      · rw [if_pos hc133] at hf
                                        refine lv_iconst (v := 0) hx hb dL_law_660 (by decide) ?_
                                        exact w_L_law_661 hB hX hbl ih _ _ _ N cs sl h (x1) (x2) (x3) ((0 : Int32)) (v131) (v130) (x1) hG (lv_sub hl [0, 1, 2, 3] rfl) hf
                                      · rw [if_neg hc133] at hf
                                        refine lv_iconst (v := 1) hx hb dL_law_656 (by decide) ?_
                                        refine lv_goto (tgt := 661) hx hb dL_law_657 (by decide) ?_
                                        exact w_L_law_661 hB hX hbl ih _ _ _ N cs sl h (x1) (x2) (x3) ((1 : Int32)) (v131) (v130) (x1) hG (lv_sub hl [0, 1, 2, 3] rfl) hf
                                    · rw [if_neg hs2_15] at hf
                                      by_cases hs2_16 : (v1 &&& (31 : Int32)) = (16 : Int32)
                                      · rw [if_pos hs2_16] at hf
                                        refine lv_tableIn (off := 663) (tgt := 696) hx hb dL_law_33 (by rw [hs2_16]; decide) (by rw [hs2_16]; decide) (by rw [hs2_16]; rfl) (by decide) ?_
                                        refine lv_aload_n hx hb dL_law_696 rfl (lv_at hl 1 rfl) ?_
                                        refine lv_aload_n hx hb dL_law_697 rfl (lv_at hl 0 rfl) ?_
                                        refine lv_iload_n hx hb dL_law_698 rfl (lv_at hl 3 rfl) ?_
                                        refine lv_iconst (v := 1) hx hb dL_law_699 (by decide) ?_
                                        refine lv_iadd hx hb dL_law_700 ?_
                                        obtain ⟨v134, ev134, hf⟩ := zb hf
                                        refine zr_script hx hb hX hbl hG ev134 dL_law_701 ?_
                                        refine lv_aload_n hx hb dL_law_702 rfl (lv_at hl 0 rfl) ?_
                                        refine lv_iload_n hx hb dL_law_703 rfl (lv_at hl 3 rfl) ?_
                                        refine lv_iconst (v := 2) hx hb dL_law_704 (by decide) ?_
                                        refine lv_iadd hx hb dL_law_705 ?_
                                        obtain ⟨v135, ev135, hf⟩ := zb hf
                                        refine zr_script hx hb hX hbl hG ev135 dL_law_706 ?_
                                        refine lv_aload_n hx hb dL_law_707 rfl (lv_at hl 0 rfl) ?_
                                        refine lv_iload_n hx hb dL_law_708 rfl (lv_at hl 3 rfl) ?_
                                        refine lv_iconst (v := 3) hx hb dL_law_709 (by decide) ?_
                                        refine lv_iadd hx hb dL_law_710 ?_
                                        obtain ⟨v136, ev136, hf⟩ := zb hf
                                        refine zr_script hx hb hX hbl hG ev136 dL_law_711 ?_
                                        refine lv_aload_n hx hb dL_law_712 rfl (lv_at hl 0 rfl) ?_
                                        refine lv_iload_n hx hb dL_law_713 rfl (lv_at hl 3 rfl) ?_
                                        refine lv_iconst (v := 4) hx hb dL_law_714 (by decide) ?_
                                        refine lv_iadd hx hb dL_law_715 ?_
                                        obtain ⟨v137, ev137, hf⟩ := zb hf
                                        refine zr_script hx hb hX hbl hG ev137 dL_law_716 ?_
                                        refine lv_if_eq (tgt := 724) hx hb dL_law_717 (by decide) (fun hc138 => ?_) (fun hc138 => ?_)
                                        · rw [if_pos hc138] at hf
                                          refine lv_iconst (v := 0) hx hb dL_law_724 (by decide) ?_
                                          exact w_L_law_725 hB hX hbl ih _ _ _ N cs sl h (x1) (x2) (x3) ((0 : Int32)) (v136) (v135) (v134) (x1) hG (lv_sub hl [0, 1, 2, 3] rfl) hf
                                        · rw [if_neg hc138] at hf
                                          refine lv_iconst (v := 1) hx hb dL_law_720 (by decide) ?_
                                          refine lv_goto (tgt := 725) hx hb dL_law_721 (by decide) ?_
                                          exact w_L_law_725 hB hX hbl ih _ _ _ N cs sl h (x1) (x2) (x3) ((1 : Int32)) (v136) (v135) (v134) (x1) hG (lv_sub hl [0, 1, 2, 3] rfl) hf
                                      · rw [if_neg hs2_16] at hf
                                        by_cases hs2_17 : (v1 &&& (31 : Int32)) = (17 : Int32)
                                        · rw [if_pos hs2_17] at hf
                                          refine lv_tableIn (off := 742) (tgt := 775) hx hb dL_law_33 (by rw [hs2_17]; decide) (by rw [hs2_17]; decide) (by rw [hs2_17]; rfl) (by decide) ?_
                                          refine lv_aload_n hx hb dL_law_775 rfl (lv_at hl 1 rfl) ?_
                                          refine lv_aload_n hx hb dL_law_776 rfl (lv_at hl 0 rfl) ?_
                                          refine lv_iload_n hx hb dL_law_777 rfl (lv_at hl 3 rfl) ?_
                                          refine lv_iconst (v := 1) hx hb dL_law_778 (by decide) ?_
                                          refine lv_iadd hx hb dL_law_779 ?_
                                          obtain ⟨v139, ev139, hf⟩ := zb hf
                                          refine zr_script hx hb hX hbl hG ev139 dL_law_780 ?_
                                          refine lv_aload_n hx hb dL_law_781 rfl (lv_at hl 0 rfl) ?_
                                          refine lv_iload_n hx hb dL_law_782 rfl (lv_at hl 3 rfl) ?_
                                          refine lv_iconst (v := 2) hx hb dL_law_783 (by decide) ?_
                                          refine lv_iadd hx hb dL_law_784 ?_
                                          obtain ⟨v140, ev140, hf⟩ := zb hf
                                          refine zr_script hx hb hX hbl hG ev140 dL_law_785 ?_
                                          refine lv_aload_n hx hb dL_law_786 rfl (lv_at hl 0 rfl) ?_
                                          refine lv_iload_n hx hb dL_law_787 rfl (lv_at hl 3 rfl) ?_
                                          refine lv_iconst (v := 3) hx hb dL_law_788 (by decide) ?_
                                          refine lv_iadd hx hb dL_law_789 ?_
                                          obtain ⟨v141, ev141, hf⟩ := zb hf
                                          refine zr_script hx hb hX hbl hG ev141 dL_law_790 ?_
                                          refine lv_if_eq (tgt := 798) hx hb dL_law_791 (by decide) (fun hc142 => ?_) (fun hc142 => ?_)
                                          · rw [if_pos hc142] at hf
                                            refine lv_iconst (v := 0) hx hb dL_law_798 (by decide) ?_
                                            exact w_L_law_799 hB hX hbl ih _ _ _ N cs sl h (x1) (x2) (x3) ((0 : Int32)) (v140) (v139) (x1) hG (lv_sub hl [0, 1, 2, 3] rfl) hf
                                          · rw [if_neg hc142] at hf
                                            refine lv_iconst (v := 1) hx hb dL_law_794 (by decide) ?_
                                            refine lv_goto (tgt := 799) hx hb dL_law_795 (by decide) ?_
                                            exact w_L_law_799 hB hX hbl ih _ _ _ N cs sl h (x1) (x2) (x3) ((1 : Int32)) (v140) (v139) (x1) hG (lv_sub hl [0, 1, 2, 3] rfl) hf
                                        · rw [if_neg hs2_17] at hf
                                          by_cases hs2_18 : (v1 &&& (31 : Int32)) = (18 : Int32)
                                          · rw [if_pos hs2_18] at hf
                                            refine lv_tableIn (off := 801) (tgt := 834) hx hb dL_law_33 (by rw [hs2_18]; decide) (by rw [hs2_18]; decide) (by rw [hs2_18]; rfl) (by decide) ?_
                                            refine lv_aload_n hx hb dL_law_834 rfl (lv_at hl 1 rfl) ?_
                                            refine lv_aload_n hx hb dL_law_835 rfl (lv_at hl 0 rfl) ?_
                                            refine lv_iload_n hx hb dL_law_836 rfl (lv_at hl 3 rfl) ?_
                                            refine lv_iconst (v := 1) hx hb dL_law_837 (by decide) ?_
                                            refine lv_iadd hx hb dL_law_838 ?_
                                            obtain ⟨v143, ev143, hf⟩ := zb hf
                                            refine zr_script hx hb hX hbl hG ev143 dL_law_839 ?_
                                            refine lv_aload_n hx hb dL_law_840 rfl (lv_at hl 0 rfl) ?_
                                            refine lv_iload_n hx hb dL_law_841 rfl (lv_at hl 3 rfl) ?_
                                            refine lv_iconst (v := 2) hx hb dL_law_842 (by decide) ?_
                                            refine lv_iadd hx hb dL_law_843 ?_
                                            obtain ⟨v144, ev144, hf⟩ := zb hf
                                            refine zr_script hx hb hX hbl hG ev144 dL_law_844 ?_
                                            refine lv_aload_n hx hb dL_law_845 rfl (lv_at hl 0 rfl) ?_
                                            refine lv_iload_n hx hb dL_law_846 rfl (lv_at hl 3 rfl) ?_
                                            refine lv_iconst (v := 3) hx hb dL_law_847 (by decide) ?_
                                            refine lv_iadd hx hb dL_law_848 ?_
                                            obtain ⟨v145, ev145, hf⟩ := zb hf
                                            refine zr_script hx hb hX hbl hG ev145 dL_law_849 ?_
                                            refine lv_aload_n hx hb dL_law_850 rfl (lv_at hl 0 rfl) ?_
                                            refine lv_iload_n hx hb dL_law_851 rfl (lv_at hl 3 rfl) ?_
                                            refine lv_iconst (v := 4) hx hb dL_law_852 (by decide) ?_
                                            refine lv_iadd hx hb dL_law_853 ?_
                                            obtain ⟨v146, ev146, hf⟩ := zb hf
                                            refine zr_script hx hb hX hbl hG ev146 dL_law_854 ?_
                                            refine lv_aload_n hx hb dL_law_855 rfl (lv_at hl 0 rfl) ?_
                                            refine lv_iload_n hx hb dL_law_856 rfl (lv_at hl 3 rfl) ?_
                                            refine lv_iconst (v := 5) hx hb dL_law_857 (by decide) ?_
                                            refine lv_iadd hx hb dL_law_858 ?_
                                            obtain ⟨v147, ev147, hf⟩ := zb hf
                                            refine zr_script hx hb hX hbl hG ev147 dL_law_859 ?_
                                            refine lv_if_eq (tgt := 867) hx hb dL_law_860 (by decide) (fun hc148 => ?_) (fun hc148 => ?_)
                                            · rw [if_pos hc148] at hf
                                              refine lv_iconst (v := 0) hx hb dL_law_867 (by decide) ?_
                                              exact w_L_law_868 hB hX hbl ih _ _ _ N cs sl h (x1) (x2) (x3) ((0 : Int32)) (v146) (v145) (v144) (v143) (x1) hG (lv_sub hl [0, 1, 2, 3] rfl) hf
                                            · rw [if_neg hc148] at hf
                                              refine lv_iconst (v := 1) hx hb dL_law_863 (by decide) ?_
                                              refine lv_goto (tgt := 868) hx hb dL_law_864 (by decide) ?_
                                              exact w_L_law_868 hB hX hbl ih _ _ _ N cs sl h (x1) (x2) (x3) ((1 : Int32)) (v146) (v145) (v144) (v143) (x1) hG (lv_sub hl [0, 1, 2, 3] rfl) hf
                                          · rw [if_neg hs2_18] at hf
                                            have hr2_0 := lv_neT (a := 0) hs2_0 rfl
                                            have hr2_1 := lv_neT (a := 1) hs2_1 rfl
                                            have hr2_2 := lv_neT (a := 2) hs2_2 rfl
                                            have hr2_3 := lv_neT (a := 3) hs2_3 rfl
                                            have hr2_4 := lv_neT (a := 4) hs2_4 rfl
                                            have hr2_5 := lv_neT (a := 5) hs2_5 rfl
                                            have hr2_6 := lv_neT (a := 6) hs2_6 rfl
                                            have hr2_7 := lv_neT (a := 7) hs2_7 rfl
                                            have hr2_8 := lv_neT (a := 8) hs2_8 rfl
                                            have hr2_9 := lv_neT (a := 9) hs2_9 rfl
                                            have hr2_10 := lv_neT (a := 10) hs2_10 rfl
                                            have hr2_11 := lv_neT (a := 11) hs2_11 rfl
                                            have hr2_12 := lv_neT (a := 12) hs2_12 rfl
                                            have hr2_13 := lv_neT (a := 13) hs2_13 rfl
                                            have hr2_14 := lv_neT (a := 14) hs2_14 rfl
                                            have hr2_15 := lv_neT (a := 15) hs2_15 rfl
                                            have hr2_16 := lv_neT (a := 16) hs2_16 rfl
                                            have hr2_17 := lv_neT (a := 17) hs2_17 rfl
                                            have hr2_18 := lv_neT (a := 18) hs2_18 rfl
                                            refine lv_tableOut (tgt := 925) hx hb dL_law_33 (by omega) (by decide) ?_
                                            exact w_L_law_925 hB hX hbl ih _ _ _ N cs sl h (x1) (x2) (x3) hG (lv_sub hl [0, 1, 2, 3] rfl) hf

set_option maxRecDepth 100000 in
set_option maxHeartbeats 4000000 in
theorem w_L_law_0 {L : Nat} {xs : Nat → Int32} (hB : zc_B p s m #[Value.ref bS] meth c cL_law 4 RL ret D K) (hX : va_X bS L xs s s.heap) (hbl : bS < s.heap.size) : ∀ (H : Heap) (locs : List Loc) (ls : Array Slot) (N cs sl : Nat) (h : zh_H), zh_G D K s.heap.size N h s.heap H locs → lv_has ls 4 [(0, .ref bS)] → b_L_law_0 L xs  N cs sl h  = some 1 → W p l e room_1 s m #[Value.ref bS] below meth c H locs cs sl (lw_Z below #[Value.ref bS] s) (F0 m 0 ls []) := by
  have hx := hB.1
  have hb := hB.2.1
  intro H locs ls N cs sl h  hG hl hf
  unfold b_L_law_0 at hf
  obtain ⟨hz, hf⟩ := zif_s hf
  refine zr_new (fs := [.null, .null, .null, .null, .null, .null, .null, .null, .null, .null, .null]) hB hG zF_10 kq_L_7 ki_10 kn_10 (by decide) hz dL_law_0 (fun H hG => ?_)
  refine lv_dup hx hb dL_law_3 rfl ?_
  obtain ⟨hz, hf⟩ := zif_s hf
  obtain ⟨N2, h3, eh3, hf⟩ := zbp_s hf
  refine zr_callI (As := []) kc_L_9 hB hG (c_X10_init eh3) rfl hl.1 rfl ⟨by decide, by decide⟩ (Nat.le_of_ble_eq_true rfl) hz dL_law_4 (fun H locs hG => ?_)
  refine lv_astore_n (lv' := [(1, .ref N), (0, .ref bS)]) hx hb dL_law_7 rfl hl (by decide) rfl (fun ls hl => ?_)
  obtain ⟨hz, hf⟩ := zif_s hf
  refine zr_new (fs := [.null, .int 0, .null, .int 0, .null, .null, .int 0, .null, .null, .null, .int 0, .int 0, .int 0, .int 0, .null, .null, .int 0, .long 0, .long 0, .null, .null, .int 0, .null, .int 0, .int 0, .null, .null, .null, .null, .null, .null, .int 0, .null, .null, .null, .null, .null, .null, .int 0, .int 0, .null, .null, .int 0, .null, .int 0, .null]) hB hG zF_11 kq_L_10 ki_11 kn_11 (by decide) hz dL_law_8 (fun H hG => ?_)
  refine lv_dup hx hb dL_law_11 rfl ?_
  obtain ⟨hz, hf⟩ := zif_s hf
  obtain ⟨N5, h6, eh6, hf⟩ := zbp_s hf
  refine zr_callI (As := []) kc_L_12 hB hG (c_X11_init eh6) rfl hl.1 rfl ⟨by decide, by decide⟩ (Nat.le_of_ble_eq_true rfl) hz dL_law_12 (fun H locs hG => ?_)
  refine lv_astore_n (lv' := [(2, .ref N2), (1, .ref N), (0, .ref bS)]) hx hb dL_law_15 rfl hl (by decide) rfl (fun ls hl => ?_)
  refine lv_iconst (v := 0) hx hb dL_law_16 (by decide) ?_
  refine lv_istore_n (lv' := [(3, .int (0 : Int32)), (2, .ref N2), (1, .ref N), (0, .ref bS)]) hx hb dL_law_17 rfl hl (by decide) rfl (fun ls hl => ?_)
  exact w_L_law_18 hB hX hbl zFuel _ _ _ N5 ((((cs + 1) + 83) + 1) + 28) ((((sl + 11) + 71422) + 46) + 117322) h6 (N) (N2) ((0 : Int32)) hG (lv_sub hl [3, 2, 1, 0] rfl) hf
end G_law
