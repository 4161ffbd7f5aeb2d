section ENDS
variable {l : Launch} {D : va_G} {cid : Nat → ClassId} {M : MT} {X : CT} {Post : PT} {pc : Nat}
theorem st_icmp_eq {off : Int} {tgt : Nat} (hX : OK l D cid M X Post) (d : decode M.2.1 pc = .ok (.if_icmp .eq off, 3)) (ht : (pc : Int) + off = (tgt : Int)) : SS l D cid M X pc [] (t_cmp (fun x y => x = y) (FR l D cid M X tgt) (FR l D cid M X (pc + 3))) := by
  intro lv st f bc bs h H locs cells slots ls hlv hw hS hce hsl
  obtain ⟨x, y, r, rfl, h1, h2⟩ := h
  exact lv_icmp_eq hX.1 hX.2.1 d ht (fun q => h1 q H locs cells slots ls hlv hw hS hce hsl) (fun q => h2 q H locs cells slots ls hlv hw hS hce hsl)
theorem st_icmp_ne {off : Int} {tgt : Nat} (hX : OK l D cid M X Post) (d : decode M.2.1 pc = .ok (.if_icmp .ne off, 3)) (ht : (pc : Int) + off = (tgt : Int)) : SS l D cid M X pc [] (t_cmp (fun x y => ¬ x = y) (FR l D cid M X tgt) (FR l D cid M X (pc + 3))) := by
  intro lv st f bc bs h H locs cells slots ls hlv hw hS hce hsl
  obtain ⟨x, y, r, rfl, h1, h2⟩ := h
  exact lv_icmp_ne hX.1 hX.2.1 d ht (fun q => h1 q H locs cells slots ls hlv hw hS hce hsl) (fun q => h2 (fun z => z q) H locs cells slots ls hlv hw hS hce hsl)
theorem st_icmp_lt {off : Int} {tgt : Nat} (hX : OK l D cid M X Post) (d : decode M.2.1 pc = .ok (.if_icmp .lt off, 3)) (ht : (pc : Int) + off = (tgt : Int)) : SS l D cid M X pc [] (t_cmp (fun x y => x < y) (FR l D cid M X tgt) (FR l D cid M X (pc + 3))) := by
  intro lv st f bc bs h H locs cells slots ls hlv hw hS hce hsl
  obtain ⟨x, y, r, rfl, h1, h2⟩ := h
  exact lv_icmp_lt hX.1 hX.2.1 d ht (fun q => h1 q H locs cells slots ls hlv hw hS hce hsl) (fun q => h2 q H locs cells slots ls hlv hw hS hce hsl)
theorem st_icmp_ge {off : Int} {tgt : Nat} (hX : OK l D cid M X Post) (d : decode M.2.1 pc = .ok (.if_icmp .ge off, 3)) (ht : (pc : Int) + off = (tgt : Int)) : SS l D cid M X pc [] (t_cmp (fun x y => y ≤ x) (FR l D cid M X tgt) (FR l D cid M X (pc + 3))) := by
  intro lv st f bc bs h H locs cells slots ls hlv hw hS hce hsl
  obtain ⟨x, y, r, rfl, h1, h2⟩ := h
  exact lv_icmp_ge hX.1 hX.2.1 d ht (fun q => h1 q H locs cells slots ls hlv hw hS hce hsl) (fun q => h2 q H locs cells slots ls hlv hw hS hce hsl)
theorem st_icmp_gt {off : Int} {tgt : Nat} (hX : OK l D cid M X Post) (d : decode M.2.1 pc = .ok (.if_icmp .gt off, 3)) (ht : (pc : Int) + off = (tgt : Int)) : SS l D cid M X pc [] (t_cmp (fun x y => y < x) (FR l D cid M X tgt) (FR l D cid M X (pc + 3))) := by
  intro lv st f bc bs h H locs cells slots ls hlv hw hS hce hsl
  obtain ⟨x, y, r, rfl, h1, h2⟩ := h
  exact lv_icmp_gt hX.1 hX.2.1 d ht (fun q => h1 q H locs cells slots ls hlv hw hS hce hsl) (fun q => h2 q H locs cells slots ls hlv hw hS hce hsl)
theorem st_icmp_le {off : Int} {tgt : Nat} (hX : OK l D cid M X Post) (d : decode M.2.1 pc = .ok (.if_icmp .le off, 3)) (ht : (pc : Int) + off = (tgt : Int)) : SS l D cid M X pc [] (t_cmp (fun x y => x ≤ y) (FR l D cid M X tgt) (FR l D cid M X (pc + 3))) := by
  intro lv st f bc bs h H locs cells slots ls hlv hw hS hce hsl
  obtain ⟨x, y, r, rfl, h1, h2⟩ := h
  exact lv_icmp_le hX.1 hX.2.1 d ht (fun q => h1 q H locs cells slots ls hlv hw hS hce hsl) (fun q => h2 q H locs cells slots ls hlv hw hS hce hsl)
theorem st_if_eq {off : Int} {tgt : Nat} (hX : OK l D cid M X Post) (d : decode M.2.1 pc = .ok (.ifCond .eq off, 3)) (ht : (pc : Int) + off = (tgt : Int)) : SS l D cid M X pc [] (t_if (fun x => x = 0) (FR l D cid M X tgt) (FR l D cid M X (pc + 3))) := by
  intro lv st f bc bs h H locs cells slots ls hlv hw hS hce hsl
  obtain ⟨x, r, rfl, h1, h2⟩ := h
  exact lv_if_eq hX.1 hX.2.1 d ht (fun q => h1 q H locs cells slots ls hlv hw hS hce hsl) (fun q => h2 q H locs cells slots ls hlv hw hS hce hsl)
theorem st_if_ne {off : Int} {tgt : Nat} (hX : OK l D cid M X Post) (d : decode M.2.1 pc = .ok (.ifCond .ne off, 3)) (ht : (pc : Int) + off = (tgt : Int)) : SS l D cid M X pc [] (t_if (fun x => ¬ x = 0) (FR l D cid M X tgt) (FR l D cid M X (pc + 3))) := by
  intro lv st f bc bs h H locs cells slots ls hlv hw hS hce hsl
  obtain ⟨x, r, rfl, h1, h2⟩ := h
  exact lv_if_ne hX.1 hX.2.1 d ht (fun q => h1 q H locs cells slots ls hlv hw hS hce hsl) (fun q => h2 (fun z => z q) H locs cells slots ls hlv hw hS hce hsl)
theorem st_if_lt {off : Int} {tgt : Nat} (hX : OK l D cid M X Post) (d : decode M.2.1 pc = .ok (.ifCond .lt off, 3)) (ht : (pc : Int) + off = (tgt : Int)) : SS l D cid M X pc [] (t_if (fun x => x < 0) (FR l D cid M X tgt) (FR l D cid M X (pc + 3))) := by
  intro lv st f bc bs h H locs cells slots ls hlv hw hS hce hsl
  obtain ⟨x, r, rfl, h1, h2⟩ := h
  exact lv_if_lt hX.1 hX.2.1 d ht (fun q => h1 q H locs cells slots ls hlv hw hS hce hsl) (fun q => h2 q H locs cells slots ls hlv hw hS hce hsl)
theorem st_if_ge {off : Int} {tgt : Nat} (hX : OK l D cid M X Post) (d : decode M.2.1 pc = .ok (.ifCond .ge off, 3)) (ht : (pc : Int) + off = (tgt : Int)) : SS l D cid M X pc [] (t_if (fun x => 0 ≤ x) (FR l D cid M X tgt) (FR l D cid M X (pc + 3))) := by
  intro lv st f bc bs h H locs cells slots ls hlv hw hS hce hsl
  obtain ⟨x, r, rfl, h1, h2⟩ := h
  exact lv_if_ge hX.1 hX.2.1 d ht (fun q => h1 q H locs cells slots ls hlv hw hS hce hsl) (fun q => h2 q H locs cells slots ls hlv hw hS hce hsl)
theorem st_if_gt {off : Int} {tgt : Nat} (hX : OK l D cid M X Post) (d : decode M.2.1 pc = .ok (.ifCond .gt off, 3)) (ht : (pc : Int) + off = (tgt : Int)) : SS l D cid M X pc [] (t_if (fun x => 0 < x) (FR l D cid M X tgt) (FR l D cid M X (pc + 3))) := by
  intro lv st f bc bs h H locs cells slots ls hlv hw hS hce hsl
  obtain ⟨x, r, rfl, h1, h2⟩ := h
  exact lv_if_gt hX.1 hX.2.1 d ht (fun q => h1 q H locs cells slots ls hlv hw hS hce hsl) (fun q => h2 q H locs cells slots ls hlv hw hS hce hsl)
theorem st_if_le {off : Int} {tgt : Nat} (hX : OK l D cid M X Post) (d : decode M.2.1 pc = .ok (.ifCond .le off, 3)) (ht : (pc : Int) + off = (tgt : Int)) : SS l D cid M X pc [] (t_if (fun x => x ≤ 0) (FR l D cid M X tgt) (FR l D cid M X (pc + 3))) := by
  intro lv st f bc bs h H locs cells slots ls hlv hw hS hce hsl
  obtain ⟨x, r, rfl, h1, h2⟩ := h
  exact lv_if_le hX.1 hX.2.1 d ht (fun q => h1 q H locs cells slots ls hlv hw hS hce hsl) (fun q => h2 q H locs cells slots ls hlv hw hS hce hsl)
theorem st_ifnull {off : Int} {tgt : Nat} (hX : OK l D cid M X Post) (d : decode M.2.1 pc = .ok (.ifnull off, 3)) (ht : (pc : Int) + off = (tgt : Int)) : SS l D cid M X pc [] (t_null (FR l D cid M X tgt) (FR l D cid M X (pc + 3))) := by
  intro lv st f bc bs h H locs cells slots ls hlv hw hS hce hsl
  obtain ⟨v, r, rfl, h1, h2⟩ := h
  cases v with
  | none => exact lv_ifnullN hX.1 hX.2.1 d ht (h1 rfl H locs cells slots ls hlv hw hS hce hsl)
  | some a => exact lv_ifnull hX.1 hX.2.1 d (h2 a rfl H locs cells slots ls hlv hw hS hce hsl)
theorem st_ifnonnull {off : Int} {tgt : Nat} (hX : OK l D cid M X Post) (d : decode M.2.1 pc = .ok (.ifnonnull off, 3)) (ht : (pc : Int) + off = (tgt : Int)) : SS l D cid M X pc [] (t_null (FR l D cid M X (pc + 3)) (FR l D cid M X tgt)) := by
  intro lv st f bc bs h H locs cells slots ls hlv hw hS hce hsl
  obtain ⟨v, r, rfl, h1, h2⟩ := h
  cases v with
  | none => exact lv_ifnonnullN hX.1 hX.2.1 d (h1 rfl H locs cells slots ls hlv hw hS hce hsl)
  | some a => exact lv_ifnonnull hX.1 hX.2.1 d ht (h2 a rfl H locs cells slots ls hlv hw hS hce hsl)
theorem st_sw {dflt lo hi : Int} {offs : Array Int} {len : Nat} {tgts : List Nat} {td : Nat} (hX : OK l D cid M X Post) (d : decode M.2.1 pc = .ok (.tableswitch dflt lo hi offs, len)) (hlen : (tgts.length : Int) = hi - lo + 1) (ho : offs.toList.map (fun (o : Int) => (pc : Int) + o) = tgts.map (fun (t : Nat) => (t : Int))) (htd : (pc : Int) + dflt = (td : Int)) :
    SS l D cid M X pc [] (t_sw lo hi (tgts.map (fun t => FR l D cid M X t)) (FR l D cid M X td)) := by
  intro lv st f bc bs h H locs cells slots ls hlv hw hS hce hsl
  obtain ⟨x, r, rfl, h1, h2⟩ := h
  by_cases hx : x.toInt < lo ∨ hi < x.toInt
  · exact lv_tableOut hX.1 hX.2.1 d hx htd (h1 hx H locs cells slots ls hlv hw hS hce hsl)
  · have ha : ¬ x.toInt < lo := fun q => hx (Or.inl q)
    have hb : ¬ hi < x.toInt := fun q => hx (Or.inr q)
    have hi2 : (x.toInt - lo).toNat < tgts.length := by omega
    obtain ⟨t, htt⟩ : ∃ t, tgts[(x.toInt - lo).toNat]? = some t := ⟨_, List.getElem?_eq_getElem hi2⟩
    have h3 := congrArg (fun z => z[(x.toInt - lo).toNat]?) ho
    simp only [List.getElem?_map, htt, Option.map_some] at h3
    cases hoo : offs.toList[(x.toInt - lo).toNat]? with
    | none => rw [hoo] at h3; cases h3
    | some off =>
      rw [hoo] at h3
      have h4 : (pc : Int) + off = (t : Int) := Option.some.inj h3
      refine lv_tableIn hX.1 hX.2.1 d ha hb (off := off) (tgt := t) (by rw [← Array.getElem?_toList]; exact hoo) h4 ?_
      exact h2 (x.toInt - lo).toNat (FR l D cid M X t) (by omega) (by simp [htt]) H locs cells slots ls hlv hw hS hce hsl
theorem st_ret (hX : OK l D cid M X Post) (d : decode M.2.1 pc = .ok (.return_, 1)) (hr : M.2.2.2.1 = none) : SS l D cid M X pc [] (t_ret Post) := by
  intro lv st f bc bs h H locs cells slots ls hlv hw hS hce hsl
  obtain ⟨rfl, h⟩ := h
  exact hX.2.2.2.2.2.2.2.2.2 pc ls H locs cells slots none f (Or.inl ⟨rfl, hr, d⟩) h hw hS (by omega) (by omega)
theorem st_iret (hX : OK l D cid M X Post) (d : decode M.2.1 pc = .ok (.ireturn, 1)) (hr : M.2.2.2.1 = some .int) : SS l D cid M X pc [] (t_iret Post) := by
  intro lv st f bc bs h H locs cells slots ls hlv hw hS hce hsl
  obtain ⟨x, rfl, h⟩ := h
  exact hX.2.2.2.2.2.2.2.2.2 pc ls H locs cells slots (some (.int x)) f (Or.inr (Or.inl ⟨x, rfl, hr, d⟩)) h hw hS (by omega) (by omega)
theorem st_zret (hX : OK l D cid M X Post) (d : decode M.2.1 pc = .ok (.ireturn, 1)) (hr : M.2.2.2.1 = some .boolean) : SS l D cid M X pc [] (t_zret Post) := by
  intro lv st f bc bs h H locs cells slots ls hlv hw hS hce hsl
  obtain ⟨x, rfl, hx, h⟩ := h
  exact hX.2.2.2.2.2.2.2.2.2 pc ls H locs cells slots (some (.int x)) f (Or.inr (Or.inr (Or.inl ⟨x, rfl, hx, hr, d⟩))) h hw hS (by omega) (by omega)
theorem st_aret {n : String} (hX : OK l D cid M X Post) (d : decode M.2.1 pc = .ok (.areturn, 1)) (hr : M.2.2.2.1 = some (.object n)) : SS l D cid M X pc [] (t_aret Post) := by
  intro lv st f bc bs h H locs cells slots ls hlv hw hS hce hsl
  obtain ⟨r, rfl, h⟩ := h
  exact hX.2.2.2.2.2.2.2.2.2 pc ls H locs cells slots (some (va_rf r)) f (Or.inr (Or.inr (Or.inr ⟨r, n, rfl, hr, d⟩))) h hw hS (by omega) (by omega)
theorem cat_sum : ∀ r : List Value, (r.map fun v => v.category).sum ≤ 2 * r.length
  | [] => by simp
  | v :: vs => by
    have h1 := cat_sum vs
    have h2 : v.category ≤ 2 := by rcases lv_cat v with h | h <;> omega
    simp only [List.map_cons, List.sum_cons, List.length_cons]
    omega
theorem so_obj {idx : Nat} (hX : OK l D cid M X Post) (d : decode M.2.1 pc = .ok (.invokespecial idx, 3)) (h1 : Cond.methodLink M.1.cls idx Lib.objectInit ∈ TB) (h2 : Cond.instanceMethod Lib.objectInit ∈ TB) (h3 : Cond.code Lib.objectInit ⟨#[0xb1]⟩ 1 none ∈ TB) (hf : 1 ≤ M.2.2.2.2.frames) (hlo : 20 ≤ M.2.2.2.2.locals) : SO l D cid M X pc o_obj (pc + 3) := by
  intro lv st f bc bs k h hk H locs cells slots ls hlv hw hS hce hsl
  obtain ⟨a, r, rfl, hr, h⟩ := h
  have hsum := cat_sum r
  have hroom := lv_room (m := X.2.2.2.1) (pc := pc) (ls := ls) (rest := Value.ref a :: r) (st := r) (by omega)
  refine W.objInit hX.1 hX.2.1 hX.2.2.2.1 (hX.2.2.2.2.1 _ h1) (hX.2.2.2.2.1 _ h2) (hX.2.2.2.2.1 _ h3) rfl (by rw [hX.2.2.1]; exact hlv.size) rfl d hf (by omega) ?_
  exact W.eq (g2 := F0 X.2.2.2.1 (pc + 3) ls r) rfl (hk _ _ _ _ _ h H locs cells slots ls hlv hw hS hce hsl)
def Afs (f : HF) (sz : Nat) : Nat → Prop := fun q => (∃ c, f q = some c) ∨ sz ≤ q
def QQ (D : va_G) (cid : Nat → ClassId) (Post : PT) (A : Nat → Prop) : Array Value → State → Outcome → State → Prop := fun _ st oc t => (∃ (v : Option Value) (f' : HF), oc = .returned v ∧ Post v f' ∧ Wld D Cl cid A f' t.heap ∧ va_K D Cl (tysL cid) t) ∧ va_F A st t
def PPc (D : va_G) (cid : Nat → ClassId) (args : List Value) (f : HF) (sz : Nat) : Array Value → State → Prop := va_Pc args (fun U => U.heap.size = sz ∧ Wld D Cl cid (fun _ => True) f U.heap ∧ va_K D Cl (tysL cid) U ∧ EX U)
theorem pl_dom {f : HF} {L : List Nat} {k : Nat} {q : Nat × va_E} (hL : dom L f) (h : (va_pl L (fe cid f))[k]? = some q) : ∃ c, f q.1 = some c := by
  have hm := List.mem_of_getElem? h
  obtain ⟨a, ha, rfl⟩ := List.mem_map.mp hm
  exact (hL a).mp ha
theorem Wld.weaken {A B : Nat → Prop} {f : HF} {H : Heap} (h : Wld D Cl cid A f H) (hAB : ∀ q, (∃ c, f q = some c) → A q → B q) : Wld D Cl cid B f H := by
  obtain ⟨L, hL, hP, hD⟩ := h
  exact ⟨L, hL, hP, hD.weaken (fun k q hk ha => hAB q.1 (pl_dom hL hk) ha)⟩
theorem sl_len : ∀ vs : List Value, (∀ v ∈ vs, v.category = 1) → (lg_sl vs).length = vs.length
  | [], _ => rfl
  | v :: vs, h => by
    have h1 := sl_len vs (fun w hw => h w (List.mem_cons_of_mem _ hw))
    have h2 : ¬ v.category = 2 := by rw [h v List.mem_cons_self]; decide
    simp only [lg_sl, List.flatMap_cons, if_neg h2, List.length_append, List.length_cons, List.length_nil] at h1 ⊢
    omega
theorem args_in : ∀ (vs : List Value) (j n i : Nat) (v : Value), (∀ w ∈ vs, w.category = 1) → lget (vs.map some ++ List.replicate n none) i = some v → (j + i, v) ∈ lv_args j vs ∧ v.category = 1
  | [], j, n, i, v, _, h => by
    exfalso
    rw [List.map_nil, List.nil_append] at h
    induction n generalizing i with
    | zero => simp [lget] at h
    | succ n ih =>
      rw [List.replicate_succ] at h
      cases i with
      | zero => rw [lget_0] at h; cases h
      | succ i => rw [lget_s] at h; exact ih i h
  | w :: vs, j, n, i, v, hc, h => by
    have hw1 : w.category = 1 := hc w List.mem_cons_self
    have hw2 : ¬ w.category = 2 := by rw [hw1]; decide
    rw [List.map_cons, List.cons_append] at h
    cases i with
    | zero =>
      rw [lget_0] at h
      cases h
      exact ⟨List.mem_cons_self, hw1⟩
    | succ i =>
      rw [lget_s] at h
      obtain ⟨h1, h2⟩ := args_in vs (j + 1) n i v (fun q hq => hc q (List.mem_cons_of_mem _ hq)) h
      refine ⟨?_, h2⟩
      show (j + (i + 1), v) ∈ (j, w) :: lv_args (if w.category = 2 then j + 2 else j + 1) vs
      rw [if_neg hw2, show j + (i + 1) = j + 1 + i by omega]
      exact List.mem_cons_of_mem _ h1
theorem met_F {y : MethodName} {ws ws' : List Cond} {rm : Room} {Pc : Array Value → State → Prop} {Qc : Array Value → State → Outcome → State → Prop} {mc ms : Nat} {free : Addr → Prop} {cc : ByteArray} {maxL : Nat} {rt : Option FieldType}
    (hy : plainFor y = true) (hw : ws = Cond.code y cc maxL rt :: ws')
    (body : ∀ p e s m args below meth c s₁, BodyLoose p l y (headSpec ws rm) cc maxL rt e s m args below meth c s₁ → c.maxLocals = maxL → Pc args s → W p l e (headSpec ws rm).room s m args below meth c s.heap [] 0 0 (MQ below Qc args s mc ms free) (entryFrame m args maxL)) : Met l y ws rm Pc Qc mc ms free := by
  refine MetFree.of_bodySF (code := cc) (maxLocals := maxL) (ret := rt) hy (fun args s m h hn => ?_) (fun p e s m args below meth c s₁ B hml hP _ => ?_)
  · have hc := atoms_spec (ws := ws) h (Cond.code y cc maxL rt) (by rw [hw]; exact List.mem_cons_self)
    obtain ⟨meth, c, k1, k2, k3, k4, k5, k6, -⟩ := Cond.code_spec hn hc
    exact ⟨meth, c, k1, k2, k3, k4, k5, k6⟩
  · have hh : s₁.heap = s.heap := by rw [B.state]; rfl
    obtain ⟨t, w1, o, w2, w3, w4⟩ := body p e s m args below meth c s₁ B hml hP s₁ hh (Stand.of_body B)
    exact ⟨t, o, w1, w2, w3, w4.1, w4.2⟩
theorem ctr {args : List Value} {f : HF} {sz : Nat} (hy : plainFor M.1 = true) (hn : args.length ≤ M.2.2.1) (hcat : ∀ v ∈ args, v.category = 1) (h : CS l D cid M args f Post) :
    Met l M.1 (.code M.1 M.2.1 M.2.2.1 M.2.2.2.1 :: TB) M.2.2.2.2 (PPc D cid args f sz) (QQ D cid Post (Afs f sz)) M.2.2.2.2.cells M.2.2.2.2.slots (Afs f sz) := by
  refine met_F (cc := M.2.1) (maxL := M.2.2.1) (rt := M.2.2.2.1) hy rfl ?_
  intro p e s m args' below meth c s₁ B hml hv
  obtain ⟨rfl, hsz, hW, hK, hEX⟩ := hv
  subst hsz
  have hts := atoms_spec (ws := .code M.1 M.2.1 M.2.2.1 M.2.2.2.1 :: TB) B.pre
  have hlocks := B.notSynchronized
  have hX : OK l D cid M (p, e, s, m, args.toArray, below, meth, c, Afs f s.heap.size, MQ below (QQ D cid Post (Afs f s.heap.size)) args.toArray s M.2.2.2.2.cells M.2.2.2.2.slots (Afs f s.heap.size)) Post := by
    refine ⟨B.exec, B.bytes, hml, findClass_of_methodNamed B.named, fun w hw => hts w (List.mem_cons_of_mem _ hw), hK, fun q hq => Or.inr hq, fun hi => ?_, hEX, ?_⟩
    · exact (name_of_methodNamed B.named B.method).1.trans hi
    · intro pc ls H locs cells slots v f' hr hp hw hS hc hs
      refine W.widen hc hs ?_
      have hq : ∀ t : State, t.heap = H → s.WarmedH t.vm → QQ D cid Post (Afs f s.heap.size) args.toArray s (.returned v) t := fun t ht hWm => ⟨⟨v, f', rfl, hp, by rw [ht]; exact hw, va_K.moved hWm.alike hK⟩, hS.F ht⟩
      rcases hr with ⟨rfl, h1, h2⟩ | ⟨x, rfl, h1, h2⟩ | ⟨x, rfl, h0, h1, h2⟩ | ⟨r, n, rfl, h1, h2⟩
      · exact W.vret B.exec B.bytes (B.returns.trans h1) hq hS.2.2 h2
      · exact W.iret B.exec B.bytes (B.returns.trans h1) hq hS.2.2 h2
      · exact W.zret B.exec B.bytes (B.returns.trans h1) (by rcases h0 with rfl | rfl <;> decide) hq hS.2.2 h2
      · exact W.aret B.exec B.bytes (B.returns.trans h1) (Or.inl ⟨n, rfl⟩) (va_rf_or r) hq hS.2.2 h2
  have hl := lv_entry args (n := M.2.2.1) (by rw [sl_len args hcat]; exact hn)
  rw [lg_entry_eq]
  refine h _ hX s.heap [] 0 0 _ ⟨_, hl, fun i v hv => ?_⟩ (hW.weaken (fun q hq _ => Or.inl hq)) va_S.rf (by omega) (by omega)
  have := args_in args 0 _ i v hcat hv
  rw [Nat.zero_add] at this
  exact this
theorem call_end {M' : MT} {f : HF} {H : Heap} {locs : List Loc} {cells slots bc bs : Nat} {ls : Array Slot} {lv : LV} {st r : List Value} {k : KN} {a : Array Value} (hX : OK l D cid M X Post)
    (hr : va_Run X.1 l X.2.1 M.2.2.2.2 X.2.2.1 X.2.2.2.1 X.2.2.2.2.1 X.2.2.2.2.2.1 X.2.2.2.2.2.2.1 X.2.2.2.2.2.2.2.1 H locs cells slots M'.2.2.2.2.cells M'.2.2.2.2.slots (F0 X.2.2.2.1 pc ls st) r (QQ D cid (fun v f' => k lv (vst v r) f' (bc - M'.2.2.2.2.cells) (bs - M'.2.2.2.2.slots)) (Afs f H.size) a) (Afs f H.size))
    (hlv : lvr ls M.2.2.1 lv) (hw : Wld D Cl cid X.2.2.2.2.2.2.2.2.1 f H) (hS : va_S X.2.2.2.2.2.2.2.2.1 X.2.2.1.heap H locs) (hce : cells + bc ≤ M.2.2.2.2.cells) (hsl : slots + bs ≤ M.2.2.2.2.slots) (h1 : M'.2.2.2.2.cells ≤ bc) (h2 : M'.2.2.2.2.slots ≤ bs)
    (hk : ∀ lv' st' f' bc' bs', k lv' st' f' bc' bs' → FR l D cid M X (pc + 3) lv' st' f' bc' bs') :
    W X.1 l X.2.1 M.2.2.2.2 X.2.2.1 X.2.2.2.1 X.2.2.2.2.1 X.2.2.2.2.2.1 X.2.2.2.2.2.2.1 X.2.2.2.2.2.2.2.1 H locs cells slots X.2.2.2.2.2.2.2.2.2 (F0 X.2.2.2.1 pc ls st) := by
  have hsub : ∀ q, Afs f H.size q → X.2.2.2.2.2.2.2.2.1 q := by
    rintro q (⟨c, hc⟩ | hq)
    · obtain ⟨L, hL, hP, hD⟩ := hw
      obtain ⟨i, hi⟩ := wl_get (cid := cid) hL hc
      exact hD.2 i _ hi
    · exact hX.2.2.2.2.2.2.1 q (Nat.le_trans hS.1 hq)
  intro T hT XX
  obtain ⟨v, st₀, t, T', L', h0, X', hL', e1, e2, ⟨⟨v', f', hv', hp, hwl, hK'⟩, hz, hkp⟩, stp⟩ := hr T hT XX
  cases hv'
  rw [h0] at hz hkp
  obtain ⟨t2, a1, b1⟩ := hk _ _ _ _ _ hp T'.heap (locs ++ L') (cells + M'.2.2.2.2.cells) (slots + M'.2.2.2.2.slots) ls hlv (by rw [e1]; exact hwl.weaken (fun q _ ha => hsub q ha))
    ⟨Nat.le_trans hS.1 (by rw [e1]; exact hz), fun q q1 q2 => by rw [e1, hkp q (Nat.lt_of_lt_of_le q1 hS.1) (fun z => q2 (hsub q z))]; exact hS.2.1 q q1 q2, fun q hq => by
      rcases List.mem_append.mp hq with h | h
      · exact hS.2.2 q h
      · exact hsub _ (hL' q h)⟩ (by omega) (by omega) T' rfl X'
  exact ⟨t2, stp t2 a1, b1⟩
theorem blind {args : List Value} {f : HF} {sz : Nat} : FrameBlind (PPc D cid args f sz) := fun a U g mk q => by
  obtain ⟨q0, q1, qP, qK, qE⟩ := q
  exact ⟨q0, q1, qP, va_K.moved (u := U) (U := U.calling g mk a) (Vm.Alike.refl U.vm) qK, qE.same (U := U.calling g mk a) rfl⟩
theorem good_in {y : MethodName} {cc : ByteArray} {n : Nat} {rt : Option FieldType} (h : Cond.code y cc n rt ∈ TB) : GoodIn TB (.code y cc n rt :: TB) := fun w hw => by
  rcases List.mem_cons.mp hw with rfl | hw
  · exact ⟨h, good_of_word (List.all_eq_true.mp tb_good _ h)⟩
  · exact ⟨hw, good_of_word (List.all_eq_true.mp tb_good _ hw)⟩
theorem so_callV {M' : MT} {ci n idx N : Nat} {T : u_T} (hX : OK l D cid M X Post) (d : decode M.2.1 pc = .ok (.invokevirtual idx, 3)) (hc : Cl[ci]? = some (M'.1.cls, T, N)) (hcode : Cond.code M'.1 M'.2.1 M'.2.2.1 M'.2.2.2.1 ∈ TB) (hl : Cond.methodLink M.1.cls idx M'.1 ∈ TB) (hi : Cond.instanceMethod M'.1 ∈ TB) (hs : Cond.selects M'.1.cls M'.1 M'.1 ∈ TB) (hini : Cond.initialized M'.1.cls ∈ TB)
    (hy : plainFor M'.1 = true) (hn : n + 1 ≤ M'.2.2.1) (hd : M'.1.cls ≠ "java/lang/invoke/MethodHandle" ∧ M'.1.cls ≠ "java/lang/invoke/VarHandle" ∧ (parseMethodDescriptor M'.1.desc).map (fun d => d.parameters.length) = some n) (hR : M'.2.2.2.2.frames + 1 ≤ M.2.2.2.2.frames ∧ 8 + (M'.2.2.1 + 11) + M'.2.2.2.2.locals ≤ M.2.2.2.2.locals) : SO l D cid M X pc (o_callV l D cid M' ci n) (pc + 3) := by
  intro lv st f bc bs k h hk H locs cells slots ls hlv hw hS hce hsl
  obtain ⟨As, b, r, rfl, hn1, hcat, hr, h1, h2, fs, hf, h⟩ := h
  have hM := ctr (sz := H.size) hy (by simp only [List.length_cons]; omega) (fun v hv => by rcases List.mem_cons.mp hv with rfl | hv; exact rfl; exact hcat v hv) h
  obtain ⟨L, hL, hP, hD⟩ := hw
  obtain ⟨q0, hq⟩ := wl_get (cid := cid) hL hf
  have hsum := cat_sum r
  have cw : CallW M.2.2.2.2 X.2.2.1 X.2.2.2.2.1 M.1.cls M'.1.cls idx M'.1 M'.2.1 M'.2.2.1 M'.2.2.2.1 (.code M'.1 M'.2.1 M'.2.2.1 M'.2.2.2.1 :: TB) M'.2.2.2.2 M'.2.2.2.2.cells M'.2.2.2.2.slots n :=
    ⟨callB_of n hX.2.2.2.2.1 (good_in hcode) rfl rfl rfl (hX.2.2.2.2.1 _ hini) (hX.2.2.2.2.1 _ hl) hd hR, hX.2.2.2.2.1 _ hi, hX.2.2.2.2.1 _ hs⟩
  exact call_end (M' := M') (f := f) hX (va_runV (As := As) (b := b) (rest := r) ⟨hX.1, hX.2.1, hX.2.2.1, hX.2.2.2.1, hX.2.2.2.2.1⟩ hM cw
    ⟨blind, va_recv hX.2.2.2.2.2.1 hP hc hq, fun U hU hW => ⟨rfl, by rw [hU], by rw [hU]; exact ⟨L, hL, hP, hD.weaken (fun _ _ _ _ => trivial)⟩, va_K.moved hW.alike hX.2.2.2.2.2.1, hX.2.2.2.2.2.2.2.2.1.warm hW⟩⟩ rfl hn1 hlv.size rfl (lv_room (by omega)) d ⟨by omega, by omega⟩) hlv ⟨L, hL, hP, hD⟩ hS hce hsl h1 h2 hk
theorem so_callI {M' : MT} {n idx : Nat} (hX : OK l D cid M X Post) (d : decode M.2.1 pc = .ok (.invokespecial idx, 3)) (hcode : Cond.code M'.1 M'.2.1 M'.2.2.1 none ∈ TB) (hrt : M'.2.2.2.1 = none) (hl : Cond.methodLink M.1.cls idx M'.1 ∈ TB) (hi : Cond.instanceMethod M'.1 ∈ TB) (hini : Cond.initialized M'.1.cls ∈ TB) (hnm : M'.1.name = "<init>")
    (hy : plainFor M'.1 = true) (hn : n + 1 ≤ M'.2.2.1) (hd : M'.1.cls ≠ "java/lang/invoke/MethodHandle" ∧ M'.1.cls ≠ "java/lang/invoke/VarHandle" ∧ (parseMethodDescriptor M'.1.desc).map (fun d => d.parameters.length) = some n) (hR : M'.2.2.2.2.frames + 1 ≤ M.2.2.2.2.frames ∧ 8 + (M'.2.2.1 + 11) + M'.2.2.2.2.locals ≤ M.2.2.2.2.locals) : SO l D cid M X pc (o_callI l D cid M' n) (pc + 3) := by
  intro lv st f bc bs k h hk H locs cells slots ls hlv hw hS hce hsl
  obtain ⟨As, b, r, rfl, hn1, hcat, hr, h1, h2, h⟩ := h
  have hM := ctr (sz := H.size) hy (by simp only [List.length_cons]; omega) (fun v hv => by rcases List.mem_cons.mp hv with rfl | hv; exact rfl; exact hcat v hv) h
  rw [hrt] at hM
  obtain ⟨L, hL, hP, hD⟩ := hw
  have hsum := cat_sum r
  have cw := cwI (R := M.2.2.2.2) (own := M.1.cls) (index := idx) n hX.2.2.2.2.1 (good_in hcode) rfl rfl rfl (hX.2.2.2.2.1 _ hini) (hX.2.2.2.2.1 _ hl) (hX.2.2.2.2.1 _ hi) hnm hd hR
  exact call_end (M' := M') (f := f) hX (va_runI (As := As) (b := b) (rest := r) ⟨hX.1, hX.2.1, hX.2.2.1, hX.2.2.2.1, hX.2.2.2.2.1⟩ hM cw
    ⟨blind, fun U hU hW => ⟨rfl, by rw [hU], by rw [hU]; exact ⟨L, hL, hP, hD.weaken (fun _ _ _ _ => trivial)⟩, va_K.moved hW.alike hX.2.2.2.2.2.1, hX.2.2.2.2.2.2.2.2.1.warm hW⟩⟩ rfl hn1 hlv.size rfl (lv_room (by omega)) d ⟨by omega, by omega⟩) hlv ⟨L, hL, hP, hD⟩ hS hce hsl h1 h2 hk
theorem so_callS {M' : MT} {n idx : Nat} (hX : OK l D cid M X Post) (d : decode M.2.1 pc = .ok (.invokestatic idx, 3)) (hcode : Cond.code M'.1 M'.2.1 M'.2.2.1 M'.2.2.2.1 ∈ TB) (hl : Cond.methodLink M.1.cls idx M'.1 ∈ TB) (hst : Cond.static M'.1 ∈ TB) (hini : Cond.initialized M'.1.cls ∈ TB)
    (hy : plainFor M'.1 = true) (hn : n ≤ M'.2.2.1) (hd : M'.1.cls ≠ "java/lang/invoke/MethodHandle" ∧ M'.1.cls ≠ "java/lang/invoke/VarHandle" ∧ (parseMethodDescriptor M'.1.desc).map (fun d => d.parameters.length) = some n) (hR : M'.2.2.2.2.frames + 1 ≤ M.2.2.2.2.frames ∧ 8 + (M'.2.2.1 + 11) + M'.2.2.2.2.locals ≤ M.2.2.2.2.locals) : SO l D cid M X pc (o_callS l D cid M' n) (pc + 3) := by
  intro lv st f bc bs k h hk H locs cells slots ls hlv hw hS hce hsl
  obtain ⟨As, r, rfl, hn1, hcat, hr, h1, h2, h⟩ := h
  have hM := ctr (sz := H.size) hy (by omega) hcat h
  obtain ⟨L, hL, hP, hD⟩ := hw
  have hsum := cat_sum r
  have cw : CallB M.2.2.2.2 X.2.2.1 X.2.2.2.2.1 M.1.cls idx M'.1 M'.2.1 M'.2.2.1 M'.2.2.2.1 (.code M'.1 M'.2.1 M'.2.2.1 M'.2.2.2.1 :: TB) M'.2.2.2.2 M'.2.2.2.2.cells M'.2.2.2.2.slots n ∧ (Cond.static M'.1).before X.2.2.2.2.1 X.2.2.1 = true :=
    ⟨callB_of n hX.2.2.2.2.1 (good_in hcode) rfl rfl rfl (hX.2.2.2.2.1 _ hini) (hX.2.2.2.2.1 _ hl) hd hR, hX.2.2.2.2.1 _ hst⟩
  exact call_end (M' := M') (f := f) hX (va_runS (As := As) (rest := r) ⟨hX.1, hX.2.1, hX.2.2.1, hX.2.2.2.1, hX.2.2.2.2.1⟩ hM cw
    ⟨blind, fun U hU hW => ⟨rfl, by rw [hU], by rw [hU]; exact ⟨L, hL, hP, hD.weaken (fun _ _ _ _ => trivial)⟩, va_K.moved hW.alike hX.2.2.2.2.2.1, hX.2.2.2.2.2.2.2.2.1.warm hW⟩⟩ rfl hn1 hlv.size rfl (lv_room (by omega)) d ⟨by omega, by omega⟩) hlv ⟨L, hL, hP, hD⟩ hS hce hsl h1 h2 hk
end ENDS
