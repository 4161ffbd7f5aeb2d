abbrev PC : Type := (Nat × List Value) ⊕ ((Nat × Nat × (Nat → Int32)) ⊕ (Nat × Nat × (Nat → Option Nat)))
abbrev HF : Type := Nat → Option PC
def hup (f : HF) (a : Nat) (c : PC) : HF := fun b => if b = a then some c else f b
theorem hup_s (f : HF) (a : Nat) (c : PC) : hup f a c a = some c := by simp [hup]
theorem hup_n {f : HF} {a b : Nat} {c : PC} (h : b ≠ a) : hup f a c b = f b := by simp [hup, h]
def ptr (cid : Nat → ClassId) : PC → va_E
  | .inl o => .inr o
  | .inr (.inl a) => .inl (cid a.1, a.2.1, .inl a.2.2)
  | .inr (.inr a) => .inl (cid a.1, a.2.1, .inr (.inr (.inr (.inr a.2.2))))
def fe (cid : Nat → ClassId) (f : HF) : Nat → va_E := fun a => match f a with
  | some c => ptr cid c
  | none => .inr (0, [])
theorem fe_some {cid : Nat → ClassId} {f : HF} {a : Nat} {c : PC} (h : f a = some c) : fe cid f a = ptr cid c := by simp [fe, h]
theorem fe_hup (cid : Nat → ClassId) (f : HF) (a : Nat) (c : PC) : va_up (fe cid f) a (ptr cid c) = fe cid (hup f a c) := by
  funext b
  by_cases hb : b = a
  · subst hb
    simp [va_up, fe, hup]
  · simp [va_up, fe, hup, hb]
def dom (L : List Nat) (f : HF) : Prop := ∀ a, a ∈ L ↔ ∃ c, f a = some c
theorem dom_hup {L : List Nat} {f : HF} {a : Nat} {c c' : PC} (h : dom L f) (ha : f a = some c) : dom L (hup f a c') := by
  intro b
  by_cases hb : b = a
  · subst hb
    rw [hup_s]
    exact ⟨fun _ => ⟨_, rfl⟩, fun _ => (h b).mpr ⟨c, ha⟩⟩
  · rw [hup_n hb]
    exact h b
theorem dom_new {L : List Nat} {f : HF} {a : Nat} {c' : PC} (h : dom L f) : dom (L ++ [a]) (hup f a c') := by
  intro b
  by_cases hb : b = a
  · subst hb
    rw [hup_s]
    exact ⟨fun _ => ⟨_, rfl⟩, fun _ => List.mem_append_right _ (List.mem_singleton.mpr rfl)⟩
  · rw [hup_n hb, ← h b, List.mem_append, List.mem_singleton]
    exact ⟨fun q => q.resolve_right hb, Or.inl⟩
def Wld (D : va_G) (cl : List vw_C) (cid : Nat → ClassId) (A : Nat → Prop) (f : HF) (H : Heap) : Prop :=
  ∃ L : List Nat, dom L f ∧ va_P D cl (va_pl L (fe cid f)) H ∧ va_D A (va_pl L (fe cid f))
theorem wl_get {cid : Nat → ClassId} {L : List Nat} {f : HF} {a : Nat} {c : PC} (hL : dom L f) (ha : f a = some c) : ∃ k : Nat, (va_pl L (fe cid f))[k]? = some (a, ptr cid c) := by
  obtain ⟨k, hk⟩ := va_pl_get (X := []) (f := fe cid f) ((hL a).mpr ⟨c, ha⟩)
  rw [fe_some ha] at hk
  exact ⟨k, hk⟩
theorem wl_set {cid : Nat → ClassId} {A : Nat → Prop} {L : List Nat} {f : HF} {a k : Nat} {c : PC} (hL : dom L f) (hD : va_D A (va_pl L (fe cid f))) (ha : f a = some c) (hk : (va_pl L (fe cid f))[k]? = some (a, ptr cid c)) (c' : PC) : (va_pl L (fe cid f)).set k (a, ptr cid c') = va_pl L (fe cid (hup f a c')) := by
  have h1 := va_pl_set (X := []) (L := L) (f := fe cid f) (k := k) (e := ptr cid c') hD ((hL a).mpr ⟨c, ha⟩) (by rw [fe_some ha]; exact hk)
  rw [fe_hup] at h1
  exact h1
theorem wl_put {D : va_G} {cl : List vw_C} {cid : Nat → ClassId} {A : Nat → Prop} {L : List Nat} {f : HF} {a k : Nat} {c c' : PC} {H1 : Heap} (hL : dom L f) (hD : va_D A (va_pl L (fe cid f))) (ha : f a = some c) (hk : (va_pl L (fe cid f))[k]? = some (a, ptr cid c))
    (hP1 : va_P D cl ((va_pl L (fe cid f)).set k (a, ptr cid c')) H1) (hD1 : va_D A ((va_pl L (fe cid f)).set k (a, ptr cid c'))) : Wld D cl cid A (hup f a c') H1 := by
  rw [wl_set hL hD ha hk c'] at hP1 hD1
  exact ⟨L, dom_hup hL ha, hP1, hD1⟩
theorem wl_new {D : va_G} {cl : List vw_C} {cid : Nat → ClassId} {A : Nat → Prop} {L : List Nat} {f : HF} {q : Nat} {c : PC} {H1 : Heap} (hL : dom L f) (hP1 : va_P D cl (va_pl L (fe cid f) ++ [(q, ptr cid c)]) H1) (hD1 : va_D A (va_pl L (fe cid f) ++ [(q, ptr cid c)])) : f q = none ∧ Wld D cl cid A (hup f q c) H1 := by
  have hq : q ∉ L := va_pl_fresh2 (X := []) (e := ptr cid c) hD1
  have hn : f q = none := by
    cases h : f q with
    | none => rfl
    | some c0 => exact absurd ((hL q).mpr ⟨c0, h⟩) hq
  have e : va_pl L (fe cid f) ++ [(q, ptr cid c)] = va_pl (L ++ [q]) (fe cid (hup f q c)) := by
    rw [va_pl_push hq, fe_hup]
  rw [e] at hP1 hD1
  exact ⟨hn, L ++ [q], dom_new hL, hP1, hD1⟩
abbrev LV : Type := List (Option Value)
def lget : LV → Nat → Option Value
  | [], _ => none
  | v :: _, 0 => v
  | _ :: vs, i + 1 => lget vs i
def lset : LV → Nat → Value → LV
  | [], _, _ => []
  | _ :: vs, 0, x => some x :: vs
  | v :: vs, i + 1, x => v :: lset vs i x
theorem lget_0 (v : Option Value) (vs : LV) : lget (v :: vs) 0 = v := rfl
theorem lget_s (v : Option Value) (vs : LV) (i : Nat) : lget (v :: vs) (i + 1) = lget vs i := rfl
theorem lset_0 (v : Option Value) (vs : LV) (x : Value) : lset (v :: vs) 0 x = some x :: vs := rfl
theorem lset_s (v : Option Value) (vs : LV) (i : Nat) (x : Value) : lset (v :: vs) (i + 1) x = v :: lset vs i x := rfl
theorem lget_lset : ∀ (lv : LV) (i j : Nat) (x w : Value), lget (lset lv i x) j = some w → (j = i ∧ w = x) ∨ (j ≠ i ∧ lget lv j = some w)
  | [], i, j, x, w, h => by simp [lset, lget] at h
  | v :: vs, 0, 0, x, w, h => by
    rw [lset_0, lget_0] at h
    exact Or.inl ⟨rfl, (Option.some.inj h).symm⟩
  | v :: vs, 0, j + 1, x, w, h => by
    rw [lset_0, lget_s] at h
    exact Or.inr ⟨by omega, by rw [lget_s]; exact h⟩
  | v :: vs, i + 1, 0, x, w, h => by
    rw [lset_s, lget_0] at h
    exact Or.inr ⟨by omega, by rw [lget_0]; exact h⟩
  | v :: vs, i + 1, j + 1, x, w, h => by
    rw [lset_s, lget_s] at h
    rcases lget_lset vs i j x w h with ⟨h1, h2⟩ | ⟨h1, h2⟩
    · exact Or.inl ⟨by omega, h2⟩
    · exact Or.inr ⟨by omega, by rw [lget_s]; exact h2⟩
def lvr (ls : Array Slot) (nL : Nat) (lv : LV) : Prop := ∃ l : List (Nat × Value), lv_has ls nL l ∧ ∀ i v, lget lv i = some v → (i, v) ∈ l ∧ v.category = 1
theorem lvr.at {ls : Array Slot} {nL i : Nat} {lv : LV} {v : Value} (h : lvr ls nL lv) (hv : lget lv i = some v) : ls[i]? = some (.val v) := by
  obtain ⟨l, h1, h2⟩ := h
  exact h1.2.2 (i, v) (h2 i v hv).1
theorem lvr.size {ls : Array Slot} {nL : Nat} {lv : LV} (h : lvr ls nL lv) : ls.size = nL := by
  obtain ⟨l, h1, -⟩ := h
  exact h1.1
theorem lvr_set {ls' : Array Slot} {nL i : Nat} {l : List (Nat × Value)} {lv : LV} {x : Value} (hl : ∀ i v, lget lv i = some v → (i, v) ∈ l ∧ v.category = 1) (hx : x.category = 1) (h : lv_has ls' nL ((i, x) :: l.filter (fun q => !(q.1 == i) && !(q.1 + 1 == i && q.2.category == 2)))) : lvr ls' nL (lset lv i x) := by
  refine ⟨_, h, fun j w hj => ?_⟩
  rcases lget_lset lv i j x w hj with ⟨rfl, rfl⟩ | ⟨h1, h2⟩
  · exact ⟨List.mem_cons_self, hx⟩
  · obtain ⟨h3, h4⟩ := hl j w h2
    refine ⟨List.mem_cons_of_mem _ (List.mem_filter.mpr ⟨h3, ?_⟩), h4⟩
    simp [h1, h4]
abbrev MT : Type := MethodName × ByteArray × Nat × Option FieldType × Room
abbrev CT : Type := Program × Env × State × MethodId × Array Value × List Frame × Method × Code × (Nat → Prop) × (State → Prop)
abbrev KN : Type := LV → List Value → HF → Nat → Nat → Prop
abbrev OP : Type := LV → List Value → HF → Nat → Nat → KN → Prop
abbrev PT : Type := Option Value → HF → Prop
def EX (s : State) : Prop := va_AO "GroupLog$Message" s ∧ va_AO "GroupLog$Replica" s ∧ va_Nw (.castable "[I" "java/lang/Cloneable") s
theorem EX.same {u U : State} (h : u.vm = U.vm) (hE : EX u) : EX U := ⟨va_AO.moved (h ▸ Vm.Alike.refl u.vm) hE.1, va_AO.moved (h ▸ Vm.Alike.refl u.vm) hE.2.1, va_Nw.same rfl h hE.2.2⟩
theorem EX.warm {u U : State} (h : u.WarmedH U.vm) (hE : EX u) : EX U := ⟨va_AO.moved h.alike hE.1, va_AO.moved h.alike hE.2.1, va_Nw.warmC h hE.2.2⟩
section LAYER
variable (l : Launch) (D : va_G) (cid : Nat → ClassId) (M : MT) (X : CT)
def FR (pc : Nat) : KN := fun lv st f bc bs =>
  ∀ (H : Heap) (locs : List Loc) (cells slots : Nat) (ls : Array Slot), lvr ls M.2.2.1 lv → Wld D Cl cid X.2.2.2.2.2.2.2.2.1 f H → va_S X.2.2.2.2.2.2.2.2.1 X.2.2.1.heap H locs → cells + bc ≤ M.2.2.2.2.cells → slots + bs ≤ M.2.2.2.2.slots →
    W X.1 l X.2.1 M.2.2.2.2 X.2.2.1 X.2.2.2.1 X.2.2.2.2.1 X.2.2.2.2.2.1 X.2.2.2.2.2.2.1 X.2.2.2.2.2.2.2.1 H locs cells slots X.2.2.2.2.2.2.2.2.2 (F0 X.2.2.2.1 pc ls st)
def retAt (pc : Nat) (v : Option Value) : Prop :=
  (v = none ∧ M.2.2.2.1 = none ∧ decode M.2.1 pc = .ok (.return_, 1)) ∨
  (∃ x : Int32, v = some (.int x) ∧ M.2.2.2.1 = some .int ∧ decode M.2.1 pc = .ok (.ireturn, 1)) ∨
  (∃ x : Int32, v = some (.int x) ∧ (x = 0 ∨ x = 1) ∧ M.2.2.2.1 = some .boolean ∧ decode M.2.1 pc = .ok (.ireturn, 1)) ∨
  (∃ (r : Option Nat) (n : String), v = some (va_rf r) ∧ M.2.2.2.1 = some (.object n) ∧ decode M.2.1 pc = .ok (.areturn, 1))
def OK (Post : PT) : Prop :=
  X.1.tables.exec = Jvm.exec ∧ X.2.2.2.2.2.2.2.1.code = M.2.1 ∧ X.2.2.2.2.2.2.2.1.maxLocals = M.2.2.1 ∧ X.2.2.1.vm.findClass M.1.cls = some X.2.2.2.1.cls ∧ (∀ w ∈ TB, w.before X.2.2.2.2.1 X.2.2.1 = true) ∧ va_K D Cl (tysL cid) X.2.2.1 ∧
  (∀ q, X.2.2.1.heap.size ≤ q → X.2.2.2.2.2.2.2.2.1 q) ∧ (M.1.name = "<init>" → X.2.2.2.2.2.2.1.name = "<init>") ∧ EX X.2.2.1 ∧
  (∀ (pc : Nat) (ls : Array Slot) (H : Heap) (locs : List Loc) (cells slots : Nat) (v : Option Value) (f : HF), retAt M pc v → Post v f → Wld D Cl cid X.2.2.2.2.2.2.2.2.1 f H → va_S X.2.2.2.2.2.2.2.2.1 X.2.2.1.heap H locs → cells ≤ M.2.2.2.2.cells → slots ≤ M.2.2.2.2.slots →
    W X.1 l X.2.1 M.2.2.2.2 X.2.2.1 X.2.2.2.1 X.2.2.2.2.1 X.2.2.2.2.2.1 X.2.2.2.2.2.2.1 X.2.2.2.2.2.2.2.1 H locs cells slots X.2.2.2.2.2.2.2.2.2 (F0 X.2.2.2.1 pc ls v.toList))
def seg : List OP → KN → KN
  | [], t => t
  | o :: os, t => fun lv st f bc bs => o lv st f bc bs (seg os t)
theorem seg_0 (t : KN) (lv : LV) (st : List Value) (f : HF) (bc bs : Nat) : seg [] t lv st f bc bs = t lv st f bc bs := rfl
theorem seg_s (o : OP) (os : List OP) (t : KN) (lv : LV) (st : List Value) (f : HF) (bc bs : Nat) : seg (o :: os) t lv st f bc bs = o lv st f bc bs (seg os t) := rfl
def SO (pc : Nat) (o : OP) (pc' : Nat) : Prop := ∀ (lv : LV) (st : List Value) (f : HF) (bc bs : Nat) (k : KN), o lv st f bc bs k → (∀ lv' st' f' bc' bs', k lv' st' f' bc' bs' → FR l D cid M X pc' lv' st' f' bc' bs') → FR l D cid M X pc lv st f bc bs
def SS (pc : Nat) (os : List OP) (t : KN) : Prop := ∀ (lv : LV) (st : List Value) (f : HF) (bc bs : Nat), seg os t lv st f bc bs → FR l D cid M X pc lv st f bc bs
variable {l D cid M X}
theorem SS.cons {pc pc' : Nat} {o : OP} {os : List OP} {t : KN} (h1 : SO l D cid M X pc o pc') (h2 : SS l D cid M X pc' os t) : SS l D cid M X pc (o :: os) t :=
  fun lv st f bc bs h => h1 lv st f bc bs _ h (fun lv' st' f' bc' bs' h' => h2 lv' st' f' bc' bs' h')
theorem SS.fall {pc : Nat} : SS l D cid M X pc [] (FR l D cid M X pc) := fun _ _ _ _ _ h => h
def wI (o : Option Value) (k : Int32 → Prop) : Prop := ∃ x, o = some (.int x) ∧ k x
theorem wI_e (x : Int32) (k : Int32 → Prop) : wI (some (.int x)) k = k x := by simp [wI]
def wR (o : Option Value) (k : Value → Prop) : Prop := ∃ r : Option Nat, o = some (va_rf r) ∧ k (va_rf r)
theorem va_rf_inj {r r' : Option Nat} (h : va_rf r = va_rf r') : r = r' := by cases r <;> cases r' <;> simp_all [va_rf]
theorem wR_v (r : Option Nat) (k : Value → Prop) : wR (some (va_rf r)) k = k (va_rf r) := propext ⟨fun ⟨r', h, hk⟩ => by rw [va_rf_inj (Option.some.inj h)]; exact hk, fun h => ⟨r, rfl, h⟩⟩
theorem wR_r (a : Nat) (k : Value → Prop) : wR (some (.ref a)) k = k (.ref a) := wR_v (some a) k
theorem wR_n (k : Value → Prop) : wR (some .null) k = k .null := wR_v none k
def wV (o : Option Value) (k : Value → Prop) : Prop := ∃ v, o = some v ∧ k v
theorem wV_e (v : Value) (k : Value → Prop) : wV (some v) k = k v := by simp [wV]
def wF (o : Option PC) (ci j : Nat) (k : Value → Prop) : Prop := ∃ fs, o = some (.inl (ci, fs)) ∧ wV (fs[j]?) k
theorem wF_e (ci j : Nat) (fs : List Value) (k : Value → Prop) : wF (some (.inl (ci, fs))) ci j k = wV (fs[j]?) k := by simp [wF]
def wP (o : Option PC) (ci j : Nat) (k : List Value → Prop) : Prop := ∃ fs, o = some (.inl (ci, fs)) ∧ (fs[j]?).isSome = true ∧ k fs
theorem wP_e (ci j : Nat) (fs : List Value) (k : List Value → Prop) : wP (some (.inl (ci, fs))) ci j k = ((fs[j]?).isSome = true ∧ k fs) := by simp [wP]
def wA (o : Option PC) (kd : Nat) (k : Nat → (Nat → Int32) → Prop) : Prop := ∃ n g, o = some (.inr (.inl (kd, n, g))) ∧ k n g
theorem wA_e (kd n : Nat) (g : Nat → Int32) (k : Nat → (Nat → Int32) → Prop) : wA (some (.inr (.inl (kd, n, g)))) kd k = k n g := by simp [wA]
def wB (o : Option PC) (kd : Nat) (k : Nat → (Nat → Option Nat) → Prop) : Prop := ∃ n g, o = some (.inr (.inr (kd, n, g))) ∧ k n g
theorem wB_e (kd n : Nat) (g : Nat → Option Nat) (k : Nat → (Nat → Option Nat) → Prop) : wB (some (.inr (.inr (kd, n, g)))) kd k = k n g := by simp [wB]
def wO (o : Option PC) (ci : Nat) (k : Prop) : Prop := ∃ fs, o = some (.inl (ci, fs)) ∧ k
theorem wO_e (ci : Nat) (fs : List Value) (k : Prop) : wO (some (.inl (ci, fs))) ci k = k := by simp [wO]
def o_push (v : Value) : OP := fun lv st f bc bs k => k lv (v :: st) f bc bs
def o_iload (i : Nat) : OP := fun lv st f bc bs k => wI (lget lv i) fun x => k lv (.int x :: st) f bc bs
def o_aload (i : Nat) : OP := fun lv st f bc bs k => wR (lget lv i) fun v => k lv (v :: st) f bc bs
def o_istore (i : Nat) : OP := fun lv st f bc bs k => ∃ x r, st = .int x :: r ∧ k (lset lv i (.int x)) r f bc bs
def o_astore (i : Nat) : OP := fun lv st f bc bs k => ∃ v r, st = va_rf v :: r ∧ k (lset lv i (va_rf v)) r f bc bs
def o_iinc (i : Nat) (n : Int32) : OP := fun lv st f bc bs k => wI (lget lv i) fun x => k (lset lv i (.int (x + n))) st f bc bs
def o_bin (g : Int32 → Int32 → Int32) : OP := fun lv st f bc bs k => ∃ x y r, st = .int y :: .int x :: r ∧ k lv (.int (g x y) :: r) f bc bs
def o_binz (g : Int32 → Int32 → Int32) : OP := fun lv st f bc bs k => ∃ x y r, st = .int y :: .int x :: r ∧ ¬ y = 0 ∧ k lv (.int (g x y) :: r) f bc bs
def o_dup : OP := fun lv st f bc bs k => ∃ v r, st = v :: r ∧ v.category = 1 ∧ k lv (v :: v :: r) f bc bs
def o_dup2 : OP := fun lv st f bc bs k => ∃ v w r, st = v :: w :: r ∧ v.category = 1 ∧ w.category = 1 ∧ k lv (v :: w :: v :: w :: r) f bc bs
def o_getf (ci j : Nat) : OP := fun lv st f bc bs k => ∃ a r, st = .ref a :: r ∧ wF (f a) ci j fun v => k lv (v :: r) f bc bs
def o_put (ok : Value → Prop) (ci j : Nat) : OP := fun lv st f bc bs k => ∃ v a r, st = v :: .ref a :: r ∧ ok v ∧ wP (f a) ci j fun fs => k lv r (hup f a (.inl (ci, fs.set j v))) bc bs
def okI (v : Value) : Prop := ∃ x : Int32, v = .int x
def okZ (v : Value) : Prop := v = .int 0 ∨ v = .int 1
def okR (v : Value) : Prop := ∃ r : Option Nat, v = va_rf r
def o_alen (kd : Nat) : OP := fun lv st f bc bs k => ∃ a r, st = .ref a :: r ∧ wA (f a) kd fun n _ => k lv (.int (nI n) :: r) f bc bs
def o_alenq (kd : Nat) : OP := fun lv st f bc bs k => ∃ a r, st = .ref a :: r ∧ wB (f a) kd fun n _ => k lv (.int (nI n) :: r) f bc bs
def o_ald (kd : Nat) : OP := fun lv st f bc bs k => ∃ i a r, st = .int i :: .ref a :: r ∧ wA (f a) kd fun n g => vp_in i n ∧ k lv (.int (g i.toNatClampNeg) :: r) f bc bs
def o_ast : OP := fun lv st f bc bs k => ∃ x i a r, st = .int x :: .int i :: .ref a :: r ∧ wA (f a) 0 fun n g => vp_in i n ∧ k lv r (hup f a (.inr (.inl (0, n, upd g i.toNatClampNeg x)))) bc bs
def o_zst : OP := fun lv st f bc bs k => ∃ x i a r, st = .int x :: .int i :: .ref a :: r ∧ (x = 0 ∨ x = 1) ∧ wA (f a) 1 fun n g => vp_in i n ∧ k lv r (hup f a (.inr (.inl (1, n, upd g i.toNatClampNeg x)))) bc bs
def o_aldq (kd : Nat) : OP := fun lv st f bc bs k => ∃ i a r, st = .int i :: .ref a :: r ∧ wB (f a) kd fun n g => vp_in i n ∧ k lv (va_rf (g i.toNatClampNeg) :: r) f bc bs
def o_astq (kd ci : Nat) : OP := fun lv st f bc bs k => ∃ w i a r, st = va_rf w :: .int i :: .ref a :: r ∧ (∀ v, w = some v → ∃ vs, f v = some (.inl (ci, vs))) ∧ wB (f a) kd fun n g => vp_in i n ∧ k lv r (hup f a (.inr (.inr (kd, n, va_up g i.toNatClampNeg w)))) bc bs
def o_newI (kd : Nat) : OP := fun lv st f bc bs k => ∃ n r, st = .int n :: r ∧ ¬ n < 0 ∧ n.toNatClampNeg ≤ 100000 ∧ 1 ≤ bc ∧ n.toNatClampNeg ≤ bs ∧ ∀ q, f q = none → k lv (.ref q :: r) (hup f q (.inr (.inl (kd, n.toNatClampNeg, fun _ => 0)))) (bc - 1) (bs - n.toNatClampNeg)
def o_newQ (kd : Nat) : OP := fun lv st f bc bs k => ∃ n r, st = .int n :: r ∧ ¬ n < 0 ∧ n.toNatClampNeg ≤ 100000 ∧ 1 ≤ bc ∧ n.toNatClampNeg ≤ bs ∧ ∀ q, f q = none → k lv (.ref q :: r) (hup f q (.inr (.inr (kd, n.toNatClampNeg, fun _ => none)))) (bc - 1) (bs - n.toNatClampNeg)
def o_new (ci N : Nat) (fs : List Value) : OP := fun lv st f bc bs k => 1 ≤ bc ∧ N ≤ bs ∧ ∀ q, f q = none → k lv (.ref q :: st) (hup f q (.inl (ci, fs))) (bc - 1) (bs - N)
def o_clone : OP := fun lv st f bc bs k => ∃ a r, st = .ref a :: r ∧ r.length ≤ 4 ∧ wA (f a) 0 fun n g => 1 ≤ bc ∧ n ≤ bs ∧ ∀ q, f q = none → k lv (.ref q :: r) (hup f q (.inr (.inl (0, n, g)))) (bc - 1) (bs - n)
def o_castI : OP := fun lv st f bc bs k => ∃ a r, st = .ref a :: r ∧ wA (f a) 0 fun _ _ => k lv st f bc bs
def o_obj : OP := fun lv st f bc bs k => ∃ a r, st = .ref a :: r ∧ r.length ≤ 4 ∧ k lv r f bc bs
def entL (n : Nat) (args : List Value) : LV := args.map some ++ List.replicate (n - args.length) none
def vst (v : Option Value) (st : List Value) : List Value := v.toList ++ st
def CS (l : Launch) (D : va_G) (cid : Nat → ClassId) (M : MT) (args : List Value) (f : HF) (Post : PT) : Prop := ∀ X : CT, OK l D cid M X Post → FR l D cid M X 0 (entL M.2.2.1 args) [] f M.2.2.2.2.cells M.2.2.2.2.slots
def o_callV (l : Launch) (D : va_G) (cid : Nat → ClassId) (M' : MT) (ci n : Nat) : OP := fun lv st f bc bs k => ∃ As b r, st = As.reverse ++ .ref b :: r ∧ As.length = n ∧ (∀ v ∈ As, v.category = 1) ∧ r.length ≤ 4 ∧ M'.2.2.2.2.cells ≤ bc ∧ M'.2.2.2.2.slots ≤ bs ∧
  wO (f b) ci (CS l D cid M' (.ref b :: As) f fun v f' => k lv (vst v r) f' (bc - M'.2.2.2.2.cells) (bs - M'.2.2.2.2.slots))
def o_callI (l : Launch) (D : va_G) (cid : Nat → ClassId) (M' : MT) (n : Nat) : OP := fun lv st f bc bs k => ∃ As b r, st = As.reverse ++ .ref b :: r ∧ As.length = n ∧ (∀ v ∈ As, v.category = 1) ∧ r.length ≤ 4 ∧ M'.2.2.2.2.cells ≤ bc ∧ M'.2.2.2.2.slots ≤ bs ∧
  CS l D cid M' (.ref b :: As) f fun v f' => k lv (vst v r) f' (bc - M'.2.2.2.2.cells) (bs - M'.2.2.2.2.slots)
def o_callS (l : Launch) (D : va_G) (cid : Nat → ClassId) (M' : MT) (n : Nat) : OP := fun lv st f bc bs k => ∃ As r, st = As.reverse ++ r ∧ As.length = n ∧ (∀ v ∈ As, v.category = 1) ∧ r.length ≤ 4 ∧ M'.2.2.2.2.cells ≤ bc ∧ M'.2.2.2.2.slots ≤ bs ∧
  CS l D cid M' As f fun v f' => k lv (vst v r) f' (bc - M'.2.2.2.2.cells) (bs - M'.2.2.2.2.slots)
def t_goto (k : KN) : KN := k
def t_cmp (c : Int32 → Int32 → Prop) (kt kf : KN) : KN := fun lv st f bc bs => ∃ x y r, st = .int y :: .int x :: r ∧ (c x y → kt lv r f bc bs) ∧ (¬ c x y → kf lv r f bc bs)
def t_if (c : Int32 → Prop) (kt kf : KN) : KN := fun lv st f bc bs => ∃ x r, st = .int x :: r ∧ (c x → kt lv r f bc bs) ∧ (¬ c x → kf lv r f bc bs)
def t_null (kn kr : KN) : KN := fun lv st f bc bs => ∃ v r, st = va_rf v :: r ∧ (v = none → kn lv r f bc bs) ∧ (∀ a, v = some a → kr lv r f bc bs)
def t_sw (lo hi : Int) (ks : List KN) (kd : KN) : KN := fun lv st f bc bs => ∃ x r, st = .int x :: r ∧ ((x.toInt < lo ∨ hi < x.toInt) → kd lv r f bc bs) ∧ (∀ (i : Nat) (k : KN), x.toInt = lo + (i : Int) → ks[i]? = some k → k lv r f bc bs)
def t_ret (Post : PT) : KN := fun _ st f _ _ => st = [] ∧ Post none f
def t_iret (Post : PT) : KN := fun _ st f _ _ => ∃ x, st = [.int x] ∧ Post (some (.int x)) f
def t_zret (Post : PT) : KN := fun _ st f _ _ => ∃ x, st = [.int x] ∧ (x = 0 ∨ x = 1) ∧ Post (some (.int x)) f
def t_aret (Post : PT) : KN := fun _ st f _ _ => ∃ r, st = [va_rf r] ∧ Post (some (va_rf r)) f
end LAYER
