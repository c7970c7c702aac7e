section WM
variable {p : Program} {l : Launch} {e : Env} {R : Room} {s : State} {m : MethodId} {args : Array Value} {below : List Frame} {meth : Method} {c : Code} {Q : State → Prop}
variable {G : hp_G} {cc : ByteArray} {nL kc ks pc : Nat} {own : String} {ret : Option FieldType} {lv : List (Nat × Value)} {st : List Value} {h : hp_H} {α : Type} {o : α}
theorem wk_ts_in (X : wx G p s m args meth c cc nL own ret) {dflt lo hi : Int} {offs : Array Int} {len : Nat} {x v : Int32} {off : Int} (tgt j : Nat) {inst : Decidable (x = v)} {A B : Option α} (hd : decode cc pc = .ok (.tableswitch dflt lo hi offs, len)) (h1 : ¬ v.toInt < lo) (h2 : ¬ hi < v.toInt) (h3 : (v.toInt - lo).toNat = j) (ho : offs[j]? = some off) (ht : (pc : Int) + off = (tgt : Int)) (hf : @ite _ (x = v) inst A B = some o)
    (kt : A = some o → wq p l e R s m args below meth c Q G nL kc ks tgt lv st h) (kf : ¬ x = v → B = some o → wq p l e R s m args below meth c Q G nL kc ks pc lv (.int x :: st) h) : wq p l e R s m args below meth c Q G nL kc ks pc lv (.int x :: st) h := by
  by_cases hx : x = v
  · rw [if_pos hx] at hf
    subst hx
    exact fun H locs ls hP hS hL => lv_tableIn X.1.1 X.1.2.1 hd h1 h2 (by rw [h3]; exact ho) ht (kt hf H locs ls hP hS hL)
  · rw [if_neg hx] at hf
    exact kf hx hf
theorem fc_n {x : Int32} : ∀ w ∈ ([] : List Int32), ¬ x = w := fun _ h => nomatch h
theorem fc_c {x v : Int32} {vs : List Int32} (h1 : ¬ x = v) (h2 : ∀ w ∈ vs, ¬ x = w) : ∀ w ∈ v :: vs, ¬ x = w := fun w hw => by
  rcases List.mem_cons.mp hw with rfl | hw
  · exact h1
  · exact h2 w hw
theorem wk_ts_out (X : wx G p s m args meth c cc nL own ret) {dflt lo hi : Int} {offs : Array Int} {len : Nat} {x : Int32} (tgt : Nat) {vals : List Int32} (hd : decode cc pc = .ok (.tableswitch dflt lo hi offs, len)) (hall : ∀ w ∈ vals, ¬ x = w) (hv : vals = (List.range vals.length).map (fun j : Nat => Int32.ofInt (lo + (j : Int)))) (hn : hi = lo + (vals.length : Int) - 1) (ht : (pc : Int) + dflt = (tgt : Int))
    (k : wq p l e R s m args below meth c Q G nL kc ks tgt lv st h) : wq p l e R s m args below meth c Q G nL kc ks pc lv (.int x :: st) h := by
  have hout : x.toInt < lo ∨ hi < x.toInt := by
    rcases Int.lt_or_le x.toInt lo with q | q
    · exact Or.inl q
    · rcases Int.lt_or_le hi x.toInt with q2 | q2
      · exact Or.inr q2
      · exfalso
        refine hall x ?_ rfl
        rw [hv]
        refine List.mem_map.mpr ⟨(x.toInt - lo).toNat, List.mem_range.mpr (by omega), ?_⟩
        rw [show lo + (((x.toInt - lo).toNat : Nat) : Int) = x.toInt by omega]
        exact Int32.ofInt_toInt x
  exact fun H locs ls hP hS hL => lv_tableOut X.1.1 X.1.2.1 hd hout ht (k H locs ls hP hS hL)
theorem wk_callSN (X : wx G p s m args meth c cc nL own ret) {RK mc ms rk mL i n : Nat} {y : MethodName} {cy : ByteArray} {ry : Option FieldType} {host : String} (av rest : List Value) {stk : List Value} {rv : Option Value} {h' : hp_H}
    (hd : decode cc pc = .ok (.invokestatic i, 3)) (hs : stk = av.reverse ++ rest) (w : sn_ok own host i y cy mL ry n) (hn : av.length = n) (hr : rk < RK) (hcat : (rest.map fun v => v.category).sum ≤ 8)
    (hM : cs l rk y cy mL ry av h rv h') (kk : wq p l e (mt_R RK mc ms) s m args below meth c Q G nL 0 0 (pc + 3) lv (rv.toList ++ rest) h') : wq p l e (mt_R RK mc ms) s m args below meth c Q G nL 0 0 pc lv stk h := by
  obtain ⟨⟨w1, w2, w4, w5⟩, w6, w8, w9, w10⟩ := w
  intro H locs ls hP hS hL
  subst hs
  have hG : GoodIn gt_tbl (Cond.code y cy mL ry :: gt_tbl) := gt_GoodIn (fun _ h => h) (by
    intro w hw
    rcases List.mem_cons.mp hw with rfl | hw
    · exact w5
    · exact hw)
  have hcw := va_cnB (R := mt_R RK mc ms) (s := s) (args := args) (ws := Cond.code y cy mL ry :: gt_tbl) (rm := mt_R rk 0 0) (mc := 0) (ms := 0) n X.1.2.2.2.2 hG rfl rfl rfl (X.2.2.2.1.2.2.2.2.2.1 _ w1) (X.1.2.2.2.2 _ w4) ⟨w8, w9, w10⟩ ⟨hr, by show 8 + (mL + 11) + 48 * rk ≤ 48 * RK; omega⟩
  have hr0 := va_runSN (l := l) (e := e) (below := below) (meth := meth) (locs := locs) (cells := 0) (slots := 0) (As := av.map (hp_v G)) (rest := hp_s G rest) (g := F0 m pc ls (hp_s G (av.reverse ++ rest))) X.1 (hM G) ⟨hcw, X.1.2.2.2.2 _ w2, trivial⟩
    ⟨hp_B.blind, fun U hU hW => ⟨rfl, hp_B_at X hP hS hU hW⟩⟩ rfl (by simpa using hn) hL.1 (by simp [hp_s]) (by
      have h1 := hp_sum G rest
      show 2 * 0 + _ ≤ 8
      omega) hd ⟨Nat.zero_le _, Nat.zero_le _⟩
  refine wq_run hr0 hS ?_
  intro H1 locs1 hP1 hS1
  have k1 := kk H1 locs1 ls hP1 hS1 hL
  have e1 : hp_s G (rv.toList ++ rest) = (rv.map (hp_v G)).toList ++ hp_s G rest := by cases rv <;> rfl
  rw [← e1]
  exact k1
theorem wk_callSNi (X : wx G p s m args meth c cc nL own ret) {RK mc ms rk mL i n : Nat} {y : MethodName} {cy : ByteArray} {ry : Option FieldType} {host : String} (av rest : List Value) {stk : List Value} {f : Option (Int32 × hp_H)} {F : Int32 × hp_H → Option α}
    (hd : decode cc pc = .ok (.invokestatic i, 3)) (hs : stk = av.reverse ++ rest) (w : sn_ok own host i y cy mL ry n) (hn : av.length = n) (hr : rk < RK) (hcat : (rest.map fun v => v.category).sum ≤ 8) (hf : f.bind F = some o)
    (hM : ∀ r, f = some r → cs l rk y cy mL ry av h (some (.int r.1)) r.2) (kk : ∀ r, F r = some o → wq p l e (mt_R RK mc ms) s m args below meth c Q G nL 0 0 (pc + 3) lv (.int r.1 :: rest) r.2) : wq p l e (mt_R RK mc ms) s m args below meth c Q G nL 0 0 pc lv stk h := by
  obtain ⟨r, h1, h2⟩ := Option.bind_eq_some_iff.mp hf
  exact wk_callSN X av rest hd hs w hn hr hcat (hM r h1) (kk r h2)
theorem wk_astore (X : wx G p s m args meth c cc nL own ret) {i : Nat} {x : Nat} {lv' : List (Nat × Value)} (hd : decode cc pc = .ok (.astore i, 2)) (hn : i < nL) (hl : (i, Value.ref x) :: lv.filter (fun q => !(q.1 == i) && !(q.1 + 1 == i && q.2.category == 2)) = lv') (k : wq p l e R s m args below meth c Q G nL kc ks (pc + 2) lv' st h) : wq p l e R s m args below meth c Q G nL kc ks pc lv (.ref x :: st) h :=
  fun H locs ls hP hS hL => lv_astore (lv' := hp_l G lv') X.1.1 X.1.2.1 hd hL hn (by rw [hp_l_filter]; subst hl; rfl) (fun ls' hL' => k H locs ls' hP hS hL')
def hp_max (x y : Int32) : Int32 := if x < y then y else x
def hp_min (x y : Int32) : Int32 := if y < x then y else x
theorem wk_max (X : wx G p s m args meth c cc nL own ret) {RK mc ms i : Nat} {x y : Int32} (hd : decode cc pc = .ok (.invokestatic i, 3)) (hw : Cond.methodLink own i yJ9_max_7cf53 ∈ gt_tbl) (hr : 1 ≤ RK) (hcat : (st.map fun v => v.category).sum ≤ 8) (k : wq p l e (mt_R RK mc ms) s m args below meth c Q G nL 0 0 (pc + 3) lv (.int (hp_max x y) :: st) h) : wq p l e (mt_R RK mc ms) s m args below meth c Q G nL 0 0 pc lv (.int y :: .int x :: st) h := by
  intro H locs ls hP hS hL
  refine va_mmax X.1.1 X.1.2.1 (by rw [X.1.2.2.1]; exact hL.1.symm) X.1.2.2.2.1 (X.1.2.2.2.2 _ hw) (X.1.2.2.2.2 _ ms_J9_max_7cf53) (X.1.2.2.2.2 _ mk_J9) (X.1.2.2.2.2 _ mc_J9_max_7cf53) hr ?_ (Nat.zero_le _) (Nat.zero_le _) hd (k H locs ls hP hS hL)
  have h1 := hp_sum G st
  show ((hp_s G st).map fun v => v.category).sum + 13 ≤ 48 * RK
  omega
theorem wk_min (X : wx G p s m args meth c cc nL own ret) {RK mc ms i : Nat} {x y : Int32} (hd : decode cc pc = .ok (.invokestatic i, 3)) (hw : Cond.methodLink own i yJ9_min_7cf53 ∈ gt_tbl) (hr : 1 ≤ RK) (hcat : (st.map fun v => v.category).sum ≤ 8) (k : wq p l e (mt_R RK mc ms) s m args below meth c Q G nL 0 0 (pc + 3) lv (.int (hp_min x y) :: st) h) : wq p l e (mt_R RK mc ms) s m args below meth c Q G nL 0 0 pc lv (.int y :: .int x :: st) h := by
  intro H locs ls hP hS hL
  refine va_mmin X.1.1 X.1.2.1 (by rw [X.1.2.2.1]; exact hL.1.symm) X.1.2.2.2.1 (X.1.2.2.2.2 _ hw) (X.1.2.2.2.2 _ ms_J9_min_7cf53) (X.1.2.2.2.2 _ mk_J9) (X.1.2.2.2.2 _ mc_J9_min_7cf53) hr ?_ (Nat.zero_le _) (Nat.zero_le _) hd (k H locs ls hP hS hL)
  have h1 := hp_sum G st
  show ((hp_s G st).map fun v => v.category).sum + 13 ≤ 48 * RK
  omega
end WM
