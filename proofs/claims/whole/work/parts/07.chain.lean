section CHAIN
variable {l : Launch} {D : va_G} {cid : Nat → ClassId} {os : List OP} {t : KN} {lv : LV} {st r : List Value} {f : HF} {bc bs : Nat}
theorem okR_r (a : Nat) : okR (.ref a) := ⟨some a, rfl⟩
theorem okR_n : okR .null := ⟨none, rfl⟩
theorem okR_v (r : Option Nat) : okR (va_rf r) := ⟨r, rfl⟩
theorem cok_0 : cok [] := trivial
theorem cok_c {v : Value} {vs : List Value} (h : v.category = 1) (h' : cok vs) : cok (v :: vs) := ⟨h, h'⟩
theorem in_n {c n : Nat} (h : c < n) (h' : c < 2 ^ 31) : vp_in (nI c) n := by
  rintro (h1 | h1)
  · exact nI_pos h' h1
  · rw [nI_clamp h'] at h1
    omega
theorem i_push {v : Value} (k : seg os t lv (v :: st) f bc bs) : seg (o_push v :: os) t lv st f bc bs := k
theorem i_iload {i : Nat} {x : Int32} (h : lget lv i = some (.int x)) (k : seg os t lv (.int x :: st) f bc bs) : seg (o_iload i :: os) t lv st f bc bs := ⟨x, h, k⟩
theorem i_aload {i : Nat} {v : Value} (h : lget lv i = some v) (k : seg os t lv (v :: st) f bc bs) (hv : okR v := by first | exact okR_r _ | exact okR_v _ | exact okR_n) : seg (o_aload i :: os) t lv st f bc bs := by
  obtain ⟨r, rfl⟩ := hv
  exact ⟨r, h, k⟩
theorem i_istore {i : Nat} {x : Int32} (k : seg os t (lset lv i (.int x)) r f bc bs) : seg (o_istore i :: os) t lv (.int x :: r) f bc bs := ⟨x, r, rfl, k⟩
theorem i_astore {i : Nat} {v : Value} (k : seg os t (lset lv i v) r f bc bs) (hv : okR v := by first | exact okR_r _ | exact okR_v _ | exact okR_n) : seg (o_astore i :: os) t lv (v :: r) f bc bs := by
  obtain ⟨q, rfl⟩ := hv
  exact ⟨q, r, rfl, k⟩
theorem i_iinc {i : Nat} {n x : Int32} (h : lget lv i = some (.int x)) (k : seg os t (lset lv i (.int (x + n))) st f bc bs) : seg (o_iinc i n :: os) t lv st f bc bs := ⟨x, h, k⟩
theorem i_bin {g : Int32 → Int32 → Int32} {x y : Int32} (k : seg os t lv (.int (g x y) :: r) f bc bs) : seg (o_bin g :: os) t lv (.int y :: .int x :: r) f bc bs := ⟨x, y, r, rfl, k⟩
theorem i_binz {g : Int32 → Int32 → Int32} {x y : Int32} (h : ¬ y = 0) (k : seg os t lv (.int (g x y) :: r) f bc bs) : seg (o_binz g :: os) t lv (.int y :: .int x :: r) f bc bs := ⟨x, y, r, rfl, h, k⟩
theorem i_dup {v : Value} (k : seg os t lv (v :: v :: r) f bc bs) (hv : v.category = 1 := by first | rfl | exact rf_cat _) : seg (o_dup :: os) t lv (v :: r) f bc bs := ⟨v, r, rfl, hv, k⟩
theorem i_dup2 {v w : Value} (k : seg os t lv (v :: w :: v :: w :: r) f bc bs) (hv : v.category = 1 := by first | rfl | exact rf_cat _) (hw : w.category = 1 := by first | rfl | exact rf_cat _) : seg (o_dup2 :: os) t lv (v :: w :: r) f bc bs := ⟨v, w, r, rfl, hv, hw, k⟩
theorem i_getf {ci j a : Nat} {fs : List Value} {v : Value} (hf : f a = some (.inl (ci, fs))) (hv : fs[j]? = some v) (k : seg os t lv (v :: r) f bc bs) : seg (o_getf ci j :: os) t lv (.ref a :: r) f bc bs := ⟨a, r, rfl, fs, hf, v, hv, k⟩
theorem i_putI {ci j a : Nat} {fs : List Value} {x : Int32} (hf : f a = some (.inl (ci, fs))) (hj : (fs[j]?).isSome = true) (k : seg os t lv r (hup f a (.inl (ci, fs.set j (.int x)))) bc bs) : seg (o_put okI ci j :: os) t lv (.int x :: .ref a :: r) f bc bs := ⟨.int x, a, r, rfl, ⟨x, rfl⟩, fs, hf, hj, k⟩
theorem i_putZ {ci j a : Nat} {fs : List Value} {x : Int32} (hf : f a = some (.inl (ci, fs))) (hj : (fs[j]?).isSome = true) (k : seg os t lv r (hup f a (.inl (ci, fs.set j (.int x)))) bc bs) (hx : x = 0 ∨ x = 1 := by first | exact Or.inl rfl | exact Or.inr rfl) : seg (o_put okZ ci j :: os) t lv (.int x :: .ref a :: r) f bc bs := by
  refine ⟨.int x, a, r, rfl, ?_, fs, hf, hj, k⟩
  rcases hx with rfl | rfl
  · exact Or.inl rfl
  · exact Or.inr rfl
theorem i_putR {ci j a : Nat} {fs : List Value} {v : Value} (hf : f a = some (.inl (ci, fs))) (hj : (fs[j]?).isSome = true) (k : seg os t lv r (hup f a (.inl (ci, fs.set j v))) bc bs) (hv : okR v := by first | exact okR_r _ | exact okR_v _ | exact okR_n) : seg (o_put okR ci j :: os) t lv (v :: .ref a :: r) f bc bs := ⟨v, a, r, rfl, hv, fs, hf, hj, k⟩
theorem i_alen {kd a n : Nat} {g : Nat → Int32} (hf : f a = some (.inr (.inl (kd, n, g)))) (k : seg os t lv (.int (nI n) :: r) f bc bs) : seg (o_alen kd :: os) t lv (.ref a :: r) f bc bs := ⟨a, r, rfl, n, g, hf, k⟩
theorem i_alenq {kd a n : Nat} {g : Nat → Option Nat} (hf : f a = some (.inr (.inr (kd, n, g)))) (k : seg os t lv (.int (nI n) :: r) f bc bs) : seg (o_alenq kd :: os) t lv (.ref a :: r) f bc bs := ⟨a, r, rfl, n, g, hf, k⟩
theorem i_ald {kd a n c : Nat} {g : Nat → Int32} {i : Int32} (hf : f a = some (.inr (.inl (kd, n, g)))) (hi : i = nI c ∧ c < n ∧ c < 2 ^ 31) (k : seg os t lv (.int (g c) :: r) f bc bs) : seg (o_ald kd :: os) t lv (.int i :: .ref a :: r) f bc bs := by
  obtain ⟨rfl, h1, h2⟩ := hi
  refine ⟨nI c, a, r, rfl, n, g, hf, in_n h1 h2, ?_⟩
  rw [nI_clamp h2]
  exact k
theorem i_ast {a n c : Nat} {g : Nat → Int32} {i x : Int32} (hf : f a = some (.inr (.inl (0, n, g)))) (hi : i = nI c ∧ c < n ∧ c < 2 ^ 31) (k : seg os t lv r (hup f a (.inr (.inl (0, n, upd g c x)))) bc bs) : seg (o_ast :: os) t lv (.int x :: .int i :: .ref a :: r) f bc bs := by
  obtain ⟨rfl, h1, h2⟩ := hi
  refine ⟨x, nI c, a, r, rfl, n, g, hf, in_n h1 h2, ?_⟩
  rw [nI_clamp h2]
  exact k
theorem i_zst {a n c : Nat} {g : Nat → Int32} {i x : Int32} (hf : f a = some (.inr (.inl (1, n, g)))) (hi : i = nI c ∧ c < n ∧ c < 2 ^ 31) (k : seg os t lv r (hup f a (.inr (.inl (1, n, upd g c x)))) bc bs) (hx : x = 0 ∨ x = 1 := by first | exact Or.inl rfl | exact Or.inr rfl | assumption) : seg (o_zst :: os) t lv (.int x :: .int i :: .ref a :: r) f bc bs := by
  obtain ⟨rfl, h1, h2⟩ := hi
  refine ⟨x, nI c, a, r, rfl, hx, n, g, hf, in_n h1 h2, ?_⟩
  rw [nI_clamp h2]
  exact k
theorem i_aldq {kd a n c : Nat} {g : Nat → Option Nat} {i : Int32} (hf : f a = some (.inr (.inr (kd, n, g)))) (hi : i = nI c ∧ c < n ∧ c < 2 ^ 31) (k : seg os t lv (va_rf (g c) :: r) f bc bs) : seg (o_aldq kd :: os) t lv (.int i :: .ref a :: r) f bc bs := by
  obtain ⟨rfl, h1, h2⟩ := hi
  refine ⟨nI c, a, r, rfl, n, g, hf, in_n h1 h2, ?_⟩
  rw [nI_clamp h2]
  exact k
theorem i_aldq' {kd a n c : Nat} {g : Nat → Option Nat} {i : Int32} {v : Value} (hf : f a = some (.inr (.inr (kd, n, g)))) (hi : (i = nI c ∧ c < n ∧ c < 2 ^ 31) ∧ va_rf (g c) = v) (k : seg os t lv (v :: r) f bc bs) : seg (o_aldq kd :: os) t lv (.int i :: .ref a :: r) f bc bs := by
  obtain ⟨h1, rfl⟩ := hi
  exact i_aldq hf h1 k
theorem i_astq {kd ci a n c : Nat} {g : Nat → Option Nat} {i : Int32} {w : Option Nat} (hw : ∀ v, w = some v → ∃ vs, f v = some (.inl (ci, vs))) (hf : f a = some (.inr (.inr (kd, n, g)))) (hi : i = nI c ∧ c < n ∧ c < 2 ^ 31) (k : seg os t lv r (hup f a (.inr (.inr (kd, n, va_up g c w)))) bc bs) : seg (o_astq kd ci :: os) t lv (va_rf w :: .int i :: .ref a :: r) f bc bs := by
  obtain ⟨rfl, h1, h2⟩ := hi
  refine ⟨w, nI c, a, r, rfl, hw, n, g, hf, in_n h1 h2, ?_⟩
  rw [nI_clamp h2]
  exact k
theorem i_astq_n {kd ci a n c : Nat} {g : Nat → Option Nat} {i : Int32} (hf : f a = some (.inr (.inr (kd, n, g)))) (hi : i = nI c ∧ c < n ∧ c < 2 ^ 31) (k : seg os t lv r (hup f a (.inr (.inr (kd, n, va_up g c none)))) bc bs) : seg (o_astq kd ci :: os) t lv (.null :: .int i :: .ref a :: r) f bc bs :=
  i_astq (w := none) (fun v h => by cases h) hf hi k
theorem i_astq_r {kd ci a b n c : Nat} {g : Nat → Option Nat} {i : Int32} {vs : List Value} (hw : f b = some (.inl (ci, vs))) (hf : f a = some (.inr (.inr (kd, n, g)))) (hi : i = nI c ∧ c < n ∧ c < 2 ^ 31) (k : seg os t lv r (hup f a (.inr (.inr (kd, n, va_up g c (some b))))) bc bs) : seg (o_astq kd ci :: os) t lv (.ref b :: .int i :: .ref a :: r) f bc bs :=
  i_astq (w := some b) (fun v h => by cases h; exact ⟨vs, hw⟩) hf hi k
theorem i_newI {kd c : Nat} {i : Int32} (hi : i = nI c ∧ c ≤ 100000) (hb : 1 ≤ bc ∧ c ≤ bs) (k : ∀ q, f q = none → seg os t lv (.ref q :: r) (hup f q (.inr (.inl (kd, c, fun _ => 0)))) (bc - 1) (bs - c)) : seg (o_newI kd :: os) t lv (.int i :: r) f bc bs := by
  obtain ⟨rfl, h1⟩ := hi
  have h2 : (nI c).toNatClampNeg = c := nI_clamp (by omega)
  refine ⟨nI c, r, rfl, nI_pos (by omega), ?_⟩
  rw [h2]
  exact ⟨h1, hb.1, hb.2, k⟩
theorem i_newQ {kd c : Nat} {i : Int32} (hi : i = nI c ∧ c ≤ 100000) (hb : 1 ≤ bc ∧ c ≤ bs) (k : ∀ q, f q = none → seg os t lv (.ref q :: r) (hup f q (.inr (.inr (kd, c, fun _ => none)))) (bc - 1) (bs - c)) : seg (o_newQ kd :: os) t lv (.int i :: r) f bc bs := by
  obtain ⟨rfl, h1⟩ := hi
  have h2 : (nI c).toNatClampNeg = c := nI_clamp (by omega)
  refine ⟨nI c, r, rfl, nI_pos (by omega), ?_⟩
  rw [h2]
  exact ⟨h1, hb.1, hb.2, k⟩
theorem i_new {ci N : Nat} {fs : List Value} (hb : 1 ≤ bc ∧ N ≤ bs) (k : ∀ q, f q = none → seg os t lv (.ref q :: st) (hup f q (.inl (ci, fs))) (bc - 1) (bs - N)) : seg (o_new ci N fs :: os) t lv st f bc bs := ⟨hb.1, hb.2, k⟩
theorem i_clone {a n : Nat} {g : Nat → Int32} (hf : f a = some (.inr (.inl (0, n, g)))) (hb : 1 ≤ bc ∧ n ≤ bs) (k : ∀ q, f q = none → seg os t lv (.ref q :: r) (hup f q (.inr (.inl (0, n, g)))) (bc - 1) (bs - n)) (hr : r.length.ble 4 = true := by rfl) : seg (o_clone :: os) t lv (.ref a :: r) f bc bs := ⟨a, r, rfl, Nat.le_of_ble_eq_true hr, n, g, hf, hb.1, hb.2, k⟩
theorem i_castI {a n : Nat} {g : Nat → Int32} (hf : f a = some (.inr (.inl (0, n, g)))) (k : seg os t lv (.ref a :: r) f bc bs) : seg (o_castI :: os) t lv (.ref a :: r) f bc bs := ⟨a, r, rfl, n, g, hf, k⟩
theorem i_obj {a : Nat} (k : seg os t lv r f bc bs) (hr : r.length.ble 4 = true := by rfl) : seg (o_obj :: os) t lv (.ref a :: r) f bc bs := ⟨a, r, rfl, Nat.le_of_ble_eq_true hr, k⟩
theorem j_callV {M' : MT} {ci n b : Nat} {As fs : List Value} {P : PT} (h6 : f b = some (.inl (ci, fs))) (h : CS l D cid M' (.ref b :: As) f P) (h0 : st = As.reverse ++ .ref b :: r) (h1 : As.length = n)
    (hk : ∀ v f', P v f' → seg os t lv (vst v r) f' (bc - M'.2.2.2.2.cells) (bs - M'.2.2.2.2.slots)) (h2 : cok As := by repeat first | exact cok_0 | refine cok_c (by first | rfl | exact rf_cat _) ?_) (h3 : r.length.ble 4 = true := by rfl) (h4 : M'.2.2.2.2.cells ≤ bc := by first | exact Nat.zero_le _ | decide | omega) (h5 : M'.2.2.2.2.slots ≤ bs := by first | exact Nat.zero_le _ | decide | omega) : seg (o_callV l D cid M' ci n :: os) t lv st f bc bs :=
  cV h6 h h0 h1 h2 (Nat.le_of_ble_eq_true h3) h4 h5 hk
theorem j_callI {M' : MT} {n b : Nat} {As : List Value} {P : PT} (h : CS l D cid M' (.ref b :: As) f P) (h0 : st = As.reverse ++ .ref b :: r) (h1 : As.length = n)
    (hk : ∀ v f', P v f' → seg os t lv (vst v r) f' (bc - M'.2.2.2.2.cells) (bs - M'.2.2.2.2.slots)) (h2 : cok As := by repeat first | exact cok_0 | refine cok_c (by first | rfl | exact rf_cat _) ?_) (h3 : r.length.ble 4 = true := by rfl) (h4 : M'.2.2.2.2.cells ≤ bc := by first | exact Nat.zero_le _ | decide | omega) (h5 : M'.2.2.2.2.slots ≤ bs := by first | exact Nat.zero_le _ | decide | omega) : seg (o_callI l D cid M' n :: os) t lv st f bc bs :=
  cI h h0 h1 h2 (Nat.le_of_ble_eq_true h3) h4 h5 hk
theorem j_callS {M' : MT} {n : Nat} {As : List Value} {P : PT} (h : CS l D cid M' As f P) (h0 : st = As.reverse ++ r) (h1 : As.length = n)
    (hk : ∀ v f', P v f' → seg os t lv (vst v r) f' (bc - M'.2.2.2.2.cells) (bs - M'.2.2.2.2.slots)) (h2 : cok As := by repeat first | exact cok_0 | refine cok_c (by first | rfl | exact rf_cat _) ?_) (h3 : r.length.ble 4 = true := by rfl) (h4 : M'.2.2.2.2.cells ≤ bc := by first | exact Nat.zero_le _ | decide | omega) (h5 : M'.2.2.2.2.slots ≤ bs := by first | exact Nat.zero_le _ | decide | omega) : seg (o_callS l D cid M' n :: os) t lv st f bc bs :=
  cS h h0 h1 h2 (Nat.le_of_ble_eq_true h3) h4 h5 hk
theorem j_rdV {M' : MT} {ci n b : Nat} {As fs : List Value} {w : Value} (h6 : f b = some (.inl (ci, fs))) (h : CS l D cid M' (.ref b :: As) f (fun v f' => v = some w ∧ f' = f)) (h0 : st = As.reverse ++ .ref b :: r) (h1 : As.length = n)
    (hk : seg os t lv (w :: r) f (bc - M'.2.2.2.2.cells) (bs - M'.2.2.2.2.slots)) (h2 : cok As := by repeat first | exact cok_0 | refine cok_c (by first | rfl | exact rf_cat _) ?_) (h3 : r.length.ble 4 = true := by rfl) (h4 : M'.2.2.2.2.cells ≤ bc := by first | exact Nat.zero_le _ | decide | omega) (h5 : M'.2.2.2.2.slots ≤ bs := by first | exact Nat.zero_le _ | decide | omega) : seg (o_callV l D cid M' ci n :: os) t lv st f bc bs :=
  cV h6 h h0 h1 h2 (Nat.le_of_ble_eq_true h3) h4 h5 (fun v f' hv => by obtain ⟨rfl, rfl⟩ := hv; exact hk)
theorem j_rdS {M' : MT} {n : Nat} {As : List Value} {w : Value} (h : CS l D cid M' As f (fun v f' => v = some w ∧ f' = f)) (h0 : st = As.reverse ++ r) (h1 : As.length = n)
    (hk : seg os t lv (w :: r) f (bc - M'.2.2.2.2.cells) (bs - M'.2.2.2.2.slots)) (h2 : cok As := by repeat first | exact cok_0 | refine cok_c (by first | rfl | exact rf_cat _) ?_) (h3 : r.length.ble 4 = true := by rfl) (h4 : M'.2.2.2.2.cells ≤ bc := by first | exact Nat.zero_le _ | decide | omega) (h5 : M'.2.2.2.2.slots ≤ bs := by first | exact Nat.zero_le _ | decide | omega) : seg (o_callS l D cid M' n :: os) t lv st f bc bs :=
  cS h h0 h1 h2 (Nat.le_of_ble_eq_true h3) h4 h5 (fun v f' hv => by obtain ⟨rfl, rfl⟩ := hv; exact hk)
theorem j_upV {M' : MT} {ci n b : Nat} {As fs : List Value} {f1 : HF} (h6 : f b = some (.inl (ci, fs))) (h : CS l D cid M' (.ref b :: As) f (fun v f' => v = none ∧ f' = f1)) (h0 : st = As.reverse ++ .ref b :: r) (h1 : As.length = n)
    (hk : seg os t lv r f1 (bc - M'.2.2.2.2.cells) (bs - M'.2.2.2.2.slots)) (h2 : cok As := by repeat first | exact cok_0 | refine cok_c (by first | rfl | exact rf_cat _) ?_) (h3 : r.length.ble 4 = true := by rfl) (h4 : M'.2.2.2.2.cells ≤ bc := by first | exact Nat.zero_le _ | decide | omega) (h5 : M'.2.2.2.2.slots ≤ bs := by first | exact Nat.zero_le _ | decide | omega) : seg (o_callV l D cid M' ci n :: os) t lv st f bc bs :=
  cV h6 h h0 h1 h2 (Nat.le_of_ble_eq_true h3) h4 h5 (fun v f' hv => by obtain ⟨rfl, rfl⟩ := hv; exact hk)
theorem j_upI {M' : MT} {n b : Nat} {As : List Value} {f1 : HF} (h : CS l D cid M' (.ref b :: As) f (fun v f' => v = none ∧ f' = f1)) (h0 : st = As.reverse ++ .ref b :: r) (h1 : As.length = n)
    (hk : seg os t lv r f1 (bc - M'.2.2.2.2.cells) (bs - M'.2.2.2.2.slots)) (h2 : cok As := by repeat first | exact cok_0 | refine cok_c (by first | rfl | exact rf_cat _) ?_) (h3 : r.length.ble 4 = true := by rfl) (h4 : M'.2.2.2.2.cells ≤ bc := by first | exact Nat.zero_le _ | decide | omega) (h5 : M'.2.2.2.2.slots ≤ bs := by first | exact Nat.zero_le _ | decide | omega) : seg (o_callI l D cid M' n :: os) t lv st f bc bs :=
  cI h h0 h1 h2 (Nat.le_of_ble_eq_true h3) h4 h5 (fun v f' hv => by obtain ⟨rfl, rfl⟩ := hv; exact hk)
theorem i_end (k : t lv st f bc bs) : seg [] t lv st f bc bs := k
theorem i_cmp {c : Int32 → Int32 → Prop} {kt kf : KN} {x y : Int32} (h1 : c x y → kt lv r f bc bs) (h2 : ¬ c x y → kf lv r f bc bs) : seg [] (t_cmp c kt kf) lv (.int y :: .int x :: r) f bc bs := ⟨x, y, r, rfl, h1, h2⟩
theorem i_if {c : Int32 → Prop} {kt kf : KN} {x : Int32} (h1 : c x → kt lv r f bc bs) (h2 : ¬ c x → kf lv r f bc bs) : seg [] (t_if c kt kf) lv (.int x :: r) f bc bs := ⟨x, r, rfl, h1, h2⟩
def bI (b : Bool) : Int32 := if b = true then 1 else 0
theorem bI_t : bI true = 1 := rfl
theorem bI_f : bI false = 0 := rfl
theorem bI_01 (b : Bool) : bI b = 0 ∨ bI b = 1 := by cases b <;> simp [bI]
theorem i_ifb {kt kf : KN} {b : Bool} (h1 : b = false → kt lv r f bc bs) (h2 : b = true → kf lv r f bc bs) : seg [] (t_if (fun x => x = 0) kt kf) lv (.int (bI b) :: r) f bc bs := by
  refine ⟨_, r, rfl, fun h => ?_, fun h => ?_⟩
  · cases b with
    | false => exact h1 rfl
    | true => exact absurd h (by decide)
  · cases b with
    | false => exact absurd rfl h
    | true => exact h2 rfl
theorem i_ifbn {kt kf : KN} {b : Bool} (h1 : b = true → kt lv r f bc bs) (h2 : b = false → kf lv r f bc bs) : seg [] (t_if (fun x => ¬ x = 0) kt kf) lv (.int (bI b) :: r) f bc bs := by
  refine ⟨_, r, rfl, fun h => ?_, fun h => ?_⟩
  · cases b with
    | false => exact absurd rfl h
    | true => exact h1 rfl
  · cases b with
    | false => exact h2 rfl
    | true => exact absurd (show ¬ (bI true = 0) by decide) h
theorem i_null_v {kn kr : KN} {v : Option Nat} (h1 : v = none → kn lv r f bc bs) (h2 : ∀ a, v = some a → kr lv r f bc bs) : seg [] (t_null kn kr) lv (va_rf v :: r) f bc bs := ⟨v, r, rfl, h1, h2⟩
theorem i_null_r {kn kr : KN} {a : Nat} (h2 : kr lv r f bc bs) : seg [] (t_null kn kr) lv (.ref a :: r) f bc bs := ⟨some a, r, rfl, fun h => (by cases h), fun _ _ => h2⟩
theorem i_null_n {kn kr : KN} (h1 : kn lv r f bc bs) : seg [] (t_null kn kr) lv (.null :: r) f bc bs := ⟨none, r, rfl, fun _ => h1, fun _ h => (by cases h)⟩
theorem i_ret {P : PT} (h : P none f) : seg [] (t_ret P) lv [] f bc bs := ⟨rfl, h⟩
theorem i_iret {P : PT} {x : Int32} (h : P (some (.int x)) f) : seg [] (t_iret P) lv [.int x] f bc bs := ⟨x, rfl, h⟩
theorem i_zret {P : PT} {x : Int32} (h : P (some (.int x)) f) (hx : x = 0 ∨ x = 1 := by first | exact Or.inl rfl | exact Or.inr rfl | exact bI_01 _) : seg [] (t_zret P) lv [.int x] f bc bs := ⟨x, rfl, hx, h⟩
theorem i_aret {P : PT} {v : Value} (h : P (some v) f) (hv : okR v := by first | exact okR_r _ | exact okR_v _ | exact okR_n) : seg [] (t_aret P) lv [v] f bc bs := by
  obtain ⟨q, rfl⟩ := hv
  exact ⟨q, rfl, h⟩
theorem i_cmp_t {c : Int32 → Int32 → Prop} {kt kf : KN} {x y : Int32} (h : c x y) (h1 : kt lv r f bc bs) : seg [] (t_cmp c kt kf) lv (.int y :: .int x :: r) f bc bs := ⟨x, y, r, rfl, fun _ => h1, fun q => absurd h q⟩
theorem i_cmp_f {c : Int32 → Int32 → Prop} {kt kf : KN} {x y : Int32} (h : ¬ c x y) (h2 : kf lv r f bc bs) : seg [] (t_cmp c kt kf) lv (.int y :: .int x :: r) f bc bs := ⟨x, y, r, rfl, fun q => absurd q h, fun _ => h2⟩
theorem i_if_t {c : Int32 → Prop} {kt kf : KN} {x : Int32} (h : c x) (h1 : kt lv r f bc bs) : seg [] (t_if c kt kf) lv (.int x :: r) f bc bs := ⟨x, r, rfl, fun _ => h1, fun q => absurd h q⟩
theorem i_if_f {c : Int32 → Prop} {kt kf : KN} {x : Int32} (h : ¬ c x) (h2 : kf lv r f bc bs) : seg [] (t_if c kt kf) lv (.int x :: r) f bc bs := ⟨x, r, rfl, fun q => absurd q h, fun _ => h2⟩
theorem up_to {P : Nat → Prop} {N : Nat} (h1 : P N) (h2 : ∀ t, t < N → P (t + 1) → P t) : ∀ t, t ≤ N → P t := by
  have h : ∀ d t, t + d = N → P t := by
    intro d
    induction d with
    | zero => intro t ht; rw [show t = N by omega]; exact h1
    | succ d ih => intro t ht; exact h2 t (by omega) (ih (t + 1) (by omega))
  intro t ht
  exact h (N - t) t (by omega)
theorem va_s {α : Type} (g : Nat → α) (k : Nat) (v : α) : va_up g k v k = v := by simp [va_up]
theorem va_n {α : Type} {g : Nat → α} {k j : Nat} {v : α} (h : j ≠ k) : va_up g k v j = g j := by simp [va_up, h]
theorem va_va {α : Type} (g : Nat → α) (k : Nat) (v w : α) : va_up (va_up g k v) k w = va_up g k w := by
  funext j
  simp only [va_up]
  split <;> rfl
theorem va_id {α : Type} {g : Nat → α} {k : Nat} {v : α} (h : g k = v) : va_up g k v = g := by
  funext j
  by_cases e : j = k
  · subst e
    rw [va_s, h]
  · rw [va_n e]
theorem upd_s (g : Nat → Int32) (k : Nat) (v : Int32) : upd g k v k = v := by simp [upd]
theorem upd_n {g : Nat → Int32} {k j : Nat} {v : Int32} (h : j ≠ k) : upd g k v j = g j := by simp [upd, h]
end CHAIN
section CELLS
def AI (K : Nat) (A : Nat → Nat) : Prop := ∀ j k, j < K → k < K → A j = A k → j = k
def isA (K : Nat) (A : Nat → Nat) (a : Nat) : Prop := ∃ k, k < K ∧ a = A k
noncomputable def hC (K : Nat) (A : Nat → Nat) (f : HF) (cs : Nat → PC) : HF := fun a => @dite (Option PC) (isA K A a) (Classical.propDecidable _) (fun h => some (cs (Classical.choose h))) (fun _ => f a)
variable {K : Nat} {A : Nat → Nat} {f : HF} {cs : Nat → PC}
theorem hC_at (hA : AI K A) {k : Nat} (hk : k < K) : hC K A f cs (A k) = some (cs k) := by
  have h : isA K A (A k) := ⟨k, hk, rfl⟩
  have h2 := Classical.choose_spec h
  have h3 : Classical.choose h = k := (hA _ _ hk h2.1 h2.2).symm
  simp only [hC, dif_pos h, h3]
theorem hC_no {a : Nat} (h : ¬ isA K A a) : hC K A f cs a = f a := by simp only [hC, dif_neg h]
theorem hC_up (hA : AI K A) {k : Nat} (hk : k < K) (c : PC) : hup (hC K A f cs) (A k) c = hC K A f (va_up cs k c) := by
  funext a
  by_cases h : isA K A a
  · obtain ⟨j, hj, rfl⟩ := h
    rw [hC_at hA hj]
    by_cases e : j = k
    · subst e
      rw [hup_s, va_s]
    · rw [hup_n (fun q => e (hA _ _ hj hk q)), hC_at hA hj, va_n e]
  · have ha : a ≠ A k := fun q => h ⟨k, hk, q⟩
    rw [hup_n ha, hC_no h, hC_no h]
theorem hC_none {q : Nat} (h : hC K A f cs q = none) : ¬ isA K A q ∧ f q = none := by
  by_cases ha : isA K A q
  · simp only [hC, dif_pos ha] at h
    cases h
  · rw [hC_no ha] at h
    exact ⟨ha, h⟩
theorem hC_new {q : Nat} (h : hC K A f cs q = none) (c : PC) : hup (hC K A f cs) q c = hC K A (hup f q c) cs := by
  obtain ⟨h1, h2⟩ := hC_none h
  funext a
  by_cases ha : isA K A a
  · have hn : a ≠ q := fun e => h1 (e ▸ ha)
    rw [hup_n hn]
    simp only [hC, dif_pos ha]
  · rw [hC_no ha]
    by_cases e : a = q
    · subst e
      rw [hup_s, hup_s]
    · rw [hup_n e, hup_n e, hC_no ha]
theorem hC_own {q : Nat} (h : ¬ isA K A q) (c c' : PC) : hup (hC K A (hup f q c) cs) q c' = hC K A (hup f q c') cs := by
  funext a
  by_cases e : a = q
  · subst e
    rw [hup_s, hC_no h, hup_s]
  · rw [hup_n e]
    by_cases ha : isA K A a
    · simp only [hC, dif_pos ha]
    · rw [hC_no ha, hC_no ha, hup_n e, hup_n e]
variable {l : Launch} {D : va_G} {cid : Nat → ClassId} {os : List OP} {t : KN} {lv : LV} {st r : List Value} {bc bs : Nat}
theorem c_getf {ci j k : Nat} {fs : List Value} {v : Value} (hA : AI K A) (hk : k < K) (hc : cs k = .inl (ci, fs)) (hv : fs[j]? = some v) (kk : seg os t lv (v :: r) (hC K A f cs) bc bs) : seg (o_getf ci j :: os) t lv (.ref (A k) :: r) (hC K A f cs) bc bs := i_getf ((hC_at hA hk).trans (congrArg some hc)) hv kk
theorem c_cell {k : Nat} {c : PC} (hA : AI K A) (hk : k < K) (hc : cs k = c) : hC K A f cs (A k) = some c := (hC_at hA hk).trans (congrArg some hc)
theorem c_putI {ci j k : Nat} {fs : List Value} {x : Int32} (hA : AI K A) (hk : k < K) (hc : cs k = .inl (ci, fs)) (hj : (fs[j]?).isSome = true) (kk : seg os t lv r (hC K A f (va_up cs k (.inl (ci, fs.set j (.int x))))) bc bs) : seg (o_put okI ci j :: os) t lv (.int x :: .ref (A k) :: r) (hC K A f cs) bc bs :=
  i_putI (c_cell hA hk hc) hj (by rw [hC_up hA hk]; exact kk)
theorem c_putZ {ci j k : Nat} {fs : List Value} {x : Int32} (hA : AI K A) (hk : k < K) (hc : cs k = .inl (ci, fs)) (hj : (fs[j]?).isSome = true) (kk : seg os t lv r (hC K A f (va_up cs k (.inl (ci, fs.set j (.int x))))) bc bs) (hx : x = 0 ∨ x = 1 := by first | exact Or.inl rfl | exact Or.inr rfl) : seg (o_put okZ ci j :: os) t lv (.int x :: .ref (A k) :: r) (hC K A f cs) bc bs :=
  i_putZ (c_cell hA hk hc) hj (by rw [hC_up hA hk]; exact kk) hx
theorem c_putR {ci j k : Nat} {fs : List Value} {v : Value} (hA : AI K A) (hk : k < K) (hc : cs k = .inl (ci, fs)) (hj : (fs[j]?).isSome = true) (kk : seg os t lv r (hC K A f (va_up cs k (.inl (ci, fs.set j v)))) bc bs) (hv : okR v := by first | exact okR_r _ | exact okR_v _ | exact okR_n) : seg (o_put okR ci j :: os) t lv (v :: .ref (A k) :: r) (hC K A f cs) bc bs :=
  i_putR (c_cell hA hk hc) hj (by rw [hC_up hA hk]; exact kk) hv
theorem c_ast {k n c : Nat} {g : Nat → Int32} {i x : Int32} (hA : AI K A) (hk : k < K) (hc : cs k = .inr (.inl (0, n, g))) (hi : i = nI c ∧ c < n ∧ c < 2 ^ 31) (kk : seg os t lv r (hC K A f (va_up cs k (.inr (.inl (0, n, upd g c x))))) bc bs) : seg (o_ast :: os) t lv (.int x :: .int i :: .ref (A k) :: r) (hC K A f cs) bc bs :=
  i_ast (c_cell hA hk hc) hi (by rw [hC_up hA hk]; exact kk)
theorem c_astq_n {kd ci k n c : Nat} {g : Nat → Option Nat} {i : Int32} (hA : AI K A) (hk : k < K) (hc : cs k = .inr (.inr (kd, n, g))) (hi : i = nI c ∧ c < n ∧ c < 2 ^ 31) (kk : seg os t lv r (hC K A f (va_up cs k (.inr (.inr (kd, n, va_up g c none))))) bc bs) : seg (o_astq kd ci :: os) t lv (.null :: .int i :: .ref (A k) :: r) (hC K A f cs) bc bs :=
  i_astq_n (c_cell hA hk hc) hi (by rw [hC_up hA hk]; exact kk)
theorem c_astq_r {kd ci k n c b : Nat} {g : Nat → Option Nat} {i : Int32} {vs : List Value} (hw : hC K A f cs b = some (.inl (ci, vs))) (hA : AI K A) (hk : k < K) (hc : cs k = .inr (.inr (kd, n, g))) (hi : i = nI c ∧ c < n ∧ c < 2 ^ 31) (kk : seg os t lv r (hC K A f (va_up cs k (.inr (.inr (kd, n, va_up g c (some b)))))) bc bs) : seg (o_astq kd ci :: os) t lv (.ref b :: .int i :: .ref (A k) :: r) (hC K A f cs) bc bs :=
  i_astq_r hw (c_cell hA hk hc) hi (by rw [hC_up hA hk]; exact kk)
end CELLS
