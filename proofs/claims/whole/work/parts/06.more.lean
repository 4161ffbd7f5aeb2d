theorem vst_n (r : List Value) : vst none r = r := rfl
theorem vst_s (v : Value) (r : List Value) : vst (some v) r = v :: r := rfl
section MORE
variable {l : Launch} {D : va_G} {cid : Nat → ClassId} {M : MT} {X : CT} {Post : PT} {pc : Nat}
theorem CS.mono {args : List Value} {f : HF} {P Q : PT} (h : CS l D cid M args f P) (hPQ : ∀ v f', P v f' → Q v f') : CS l D cid M args f Q := fun X hX =>
  h X ⟨hX.1, hX.2.1, hX.2.2.1, hX.2.2.2.1, hX.2.2.2.2.1, hX.2.2.2.2.2.1, hX.2.2.2.2.2.2.1, hX.2.2.2.2.2.2.2.1, hX.2.2.2.2.2.2.2.2.1, fun pc ls H locs cells slots v f' hr hp => hX.2.2.2.2.2.2.2.2.2 pc ls H locs cells slots v f' hr (hPQ v f' hp)⟩
def cok : List Value → Prop
  | [] => True
  | v :: vs => v.category = 1 ∧ cok vs
theorem cok_mem : ∀ {As : List Value}, cok As → ∀ v ∈ As, v.category = 1
  | [], _, v, hv => by cases hv
  | w :: vs, h, v, hv => by
    rcases List.mem_cons.mp hv with rfl | hv
    · exact h.1
    · exact cok_mem h.2 v hv
theorem rf_cat (r : Option Nat) : (va_rf r).category = 1 := by cases r <;> rfl
theorem rf_s (a : Nat) : va_rf (some a) = .ref a := rfl
theorem rf_n : va_rf none = .null := rfl
theorem cV {M' : MT} {ci n b bc bs : Nat} {As fs r st : List Value} {lv : LV} {f : HF} {k : KN} {P : PT} (h6 : f b = some (.inl (ci, fs))) (h : CS l D cid M' (.ref b :: As) f P) (h0 : st = As.reverse ++ .ref b :: r) (h1 : As.length = n) (h2 : cok As) (h3 : r.length ≤ 4) (h4 : M'.2.2.2.2.cells ≤ bc) (h5 : M'.2.2.2.2.slots ≤ bs)
    (hk : ∀ v f', P v f' → k lv (vst v r) f' (bc - M'.2.2.2.2.cells) (bs - M'.2.2.2.2.slots)) : o_callV l D cid M' ci n lv st f bc bs k := ⟨As, b, r, h0, h1, cok_mem h2, h3, h4, h5, fs, h6, h.mono hk⟩
theorem cI {M' : MT} {n b bc bs : Nat} {As r st : List Value} {lv : LV} {f : HF} {k : KN} {P : PT} (h : CS l D cid M' (.ref b :: As) f P) (h0 : st = As.reverse ++ .ref b :: r) (h1 : As.length = n) (h2 : cok As) (h3 : r.length ≤ 4) (h4 : M'.2.2.2.2.cells ≤ bc) (h5 : M'.2.2.2.2.slots ≤ bs)
    (hk : ∀ v f', P v f' → k lv (vst v r) f' (bc - M'.2.2.2.2.cells) (bs - M'.2.2.2.2.slots)) : o_callI l D cid M' n lv st f bc bs k := ⟨As, b, r, h0, h1, cok_mem h2, h3, h4, h5, h.mono hk⟩
theorem cS {M' : MT} {n bc bs : Nat} {As r st : List Value} {lv : LV} {f : HF} {k : KN} {P : PT} (h : CS l D cid M' As f P) (h0 : st = As.reverse ++ r) (h1 : As.length = n) (h2 : cok As) (h3 : r.length ≤ 4) (h4 : M'.2.2.2.2.cells ≤ bc) (h5 : M'.2.2.2.2.slots ≤ bs)
    (hk : ∀ v f', P v f' → k lv (vst v r) f' (bc - M'.2.2.2.2.cells) (bs - M'.2.2.2.2.slots)) : o_callS l D cid M' n lv st f bc bs k := ⟨As, r, h0, h1, cok_mem h2, h3, h4, h5, h.mono hk⟩
theorem nw_0 : ∀ (cA : ClassId) (N : Nat), vp_cell cA (N, .inl (fun _ => (0 : Int32))) = arrV cA N (fun _ => defaultValue .int) := fun _ _ => rfl
theorem nw_1 : ∀ (cA : ClassId) (N : Nat), vp_cell cA (N, .inl (fun _ => (0 : Int32))) = arrV cA N (fun _ => defaultValue .boolean) := fun _ _ => rfl
theorem cid_int (hX : OK l D cid M X Post) : X.2.2.1.vm.findClass "[I" = some (cid 0) := (hX.2.2.2.2.2.1.2 0 (cid 0, .int) rfl).2
theorem so_clone {idx : Nat} (hX : OK l D cid M X Post) (d : decode M.2.1 pc = .ok (.invokevirtual idx, 3)) (hlink : Cond.methodLink M.1.cls idx ⟨"[I", "clone", "()Ljava/lang/Object;"⟩ ∈ TB) (hsame : Cond.sameMethod "[I" "java/lang/Object" "clone" "()Ljava/lang/Object;" ∈ TB) (hnat : Cond.native ⟨"java/lang/Object", "clone", "()Ljava/lang/Object;"⟩ ∈ TB)
    (hinst : Cond.instanceMethod ⟨"java/lang/Object", "clone", "()Ljava/lang/Object;"⟩ ∈ TB) (hsel : Cond.selects "[I" ⟨"[I", "clone", "()Ljava/lang/Object;"⟩ ⟨"java/lang/Object", "clone", "()Ljava/lang/Object;"⟩ ∈ TB) (hf : 1 ≤ M.2.2.2.2.frames) (hlo : 24 ≤ M.2.2.2.2.locals) : SO l D cid M X pc o_clone (pc + 3) := by
  intro lv st f bc bs k h hk H locs cells slots ls hlv hw hS hce hsl
  obtain ⟨a, r, rfl, hr, n, g, hfa, h1, h2, h⟩ := h
  obtain ⟨L, hL, hP, hD⟩ := hw
  obtain ⟨q0, hq⟩ := wl_get (cid := cid) hL hfa
  have hsum := cat_sum r
  refine va_clone (D := D) (cl := Cl) (x := (n, .inl g)) (ty := .int) hX.1 hX.2.1 (by rw [hX.2.2.1]; exact hlv.size.symm) hX.2.2.2.1 (hX.2.2.2.2.1 _ hlink) (hX.2.2.2.2.1 _ hsame) (hX.2.2.2.2.1 _ hnat) (hX.2.2.2.2.1 _ hinst) (hX.2.2.2.2.1 _ hsel) hX.2.2.2.2.2.2.2.2.1.2.2 hX.2.2.2.2.2.1 hP hD hS hX.2.2.2.2.2.2.1 q0 0 hq rfl (cid_int hX) (fun i v hv => ?_) hf (by omega) (by omega) (by omega) d (fun q H1 hK1 hP1 hD1 hS1 => ?_)
  · rw [vp_cell_i] at hv
    have hi : i < n := by
      have h9 := (Array.getElem?_eq_some_iff.mp hv).1
      rw [arrV_size] at h9
      exact h9
    rw [arrV_read _ _ hi] at hv
    cases hv
    rfl
  · obtain ⟨hq1, hw1⟩ := wl_new (c := .inr (.inl (0, n, g))) hL hP1 hD1
    exact hk _ _ _ _ _ (h q hq1) H1 locs (cells + 1) (slots + n) ls hlv hw1 hS1 (by omega) (by omega)
theorem so_castI {idx : Nat} (hX : OK l D cid M X Post) (d : decode M.2.1 pc = .ok (.checkcast idx, 3)) (hlink : Cond.classLink M.1.cls idx "[I" ∈ TB) : SO l D cid M X pc o_castI (pc + 3) := by
  intro lv st f bc bs k h hk H locs cells slots ls hlv hw hS hce hsl
  obtain ⟨a, r, rfl, n, g, hfa, h⟩ := h
  obtain ⟨L, hL, hP, hD⟩ := hw
  obtain ⟨q0, hq⟩ := wl_get (cid := cid) hL hfa
  exact va_castA (D := D) (cl := Cl) hX.1 hX.2.1 hX.2.2.2.1 (hX.2.2.2.2.1 _ hlink) hP q0 hq (cid_int hX) d (hk _ _ _ _ _ h H locs cells slots ls hlv ⟨L, hL, hP, hD⟩ hS hce hsl)
end MORE
section SCRIPT
variable {l : Launch} {D : va_G} {cid : Nat → ClassId} {M : MT} {X : CT} {Post : PT} {pc : Nat} {b L : Nat} {xs : Nat → Int32}
def Scr (X : CT) (b L : Nat) (xs : Nat → Int32) : Prop := va_X b L xs X.2.2.1 X.2.2.1.heap ∧ b < X.2.2.1.heap.size ∧ ¬ X.2.2.2.2.2.2.2.2.1 b
def o_sld (b L : Nat) (xs : Nat → Int32) : OP := fun lv st f bc bs k => ∃ i r, st = .int i :: .ref b :: r ∧ vp_in i L ∧ k lv (.int (xs i.toNatClampNeg) :: r) f bc bs
def o_slen (b L : Nat) : OP := fun lv st f bc bs k => ∃ r, st = .ref b :: r ∧ k lv (.int (nI L) :: r) f bc bs
theorem so_sld (hX : OK l D cid M X Post) (d : decode M.2.1 pc = .ok (.iaload, 1)) (hs : Scr X b L xs) : SO l D cid M X pc (o_sld b L xs) (pc + 1) := by
  intro lv st f bc bs k h hk H locs cells slots ls hlv hw hS hce hsl
  obtain ⟨i, r, rfl, hin, h⟩ := h
  exact va_sld hX.1 hX.2.1 hs.1 hs.2.1 hs.2.2 hS hin d (hk _ _ _ _ _ h H locs cells slots ls hlv hw hS hce hsl)
theorem so_slen (hX : OK l D cid M X Post) (d : decode M.2.1 pc = .ok (.arraylength, 1)) (hs : Scr X b L xs) : SO l D cid M X pc (o_slen b L) (pc + 1) := by
  intro lv st f bc bs k h hk H locs cells slots ls hlv hw hS hce hsl
  obtain ⟨r, rfl, h⟩ := h
  exact va_slen hX.1 hX.2.1 hs.1 hs.2.1 hs.2.2 hS d (hk _ _ _ _ _ h H locs cells slots ls hlv hw hS hce hsl)
end SCRIPT
