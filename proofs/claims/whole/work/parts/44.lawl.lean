section LAWL
variable {l : Launch} {D : va_G} {cid : Nat → ClassId} {M : MT} {X : CT} {Post : PT} {pc b L : Nat} {xs : Nat → Int32}
variable {os : List OP} {t : KN} {lv : LV} {st r : List Value} {f : HF} {bc bs : Nat}
def CSs (l : Launch) (D : va_G) (cid : Nat → ClassId) (M : MT) (b L : Nat) (xs : Nat → Int32) (args : List Value) (f : HF) (Post : PT) : Prop := ∀ X : CT, OK l D cid M X Post → Scr X b L xs → FR l D cid M X 0 (entL M.2.2.1 args) [] f M.2.2.2.2.cells M.2.2.2.2.slots
theorem CSs.mono {args : List Value} {P Q : PT} (h : CSs l D cid M b L xs args f P) (hPQ : ∀ v f', P v f' → Q v f') : CSs l D cid M b L xs args f Q := fun X hX hsc =>
  h X ⟨hX.1, hX.2.1, hX.2.2.1, hX.2.2.2.1, hX.2.2.2.2.1, hX.2.2.2.2.2.1, hX.2.2.2.2.2.2.1, hX.2.2.2.2.2.2.2.1, hX.2.2.2.2.2.2.2.2.1, fun pc ls H locs cells slots v f' hr hp => hX.2.2.2.2.2.2.2.2.2 pc ls H locs cells slots v f' hr (hPQ v f' hp)⟩ hsc
def PPs (D : va_G) (cid : Nat → ClassId) (args : List Value) (f : HF) (sz b L : Nat) (xs : Nat → Int32) : Array Value → State → Prop := va_Pc args (fun U => U.heap.size = sz ∧ Wld D Cl cid (fun _ => True) f U.heap ∧ va_K D Cl (tysL cid) U ∧ EX U ∧ va_X b L xs U U.heap ∧ b < sz ∧ f b = none)
theorem i_sld {c : Nat} {i : Int32} (hi : i = nI c ∧ c < L ∧ c < 2 ^ 31) (k : seg os t lv (.int (xs c) :: r) f bc bs) : seg (o_sld b L xs :: os) t lv (.int i :: .ref b :: r) f bc bs := by
  obtain ⟨rfl, h1, h2⟩ := hi
  refine ⟨nI c, r, rfl, in_n h1 h2, ?_⟩
  rw [nI_clamp h2]
  exact k
theorem i_slen (k : seg os t lv (.int (nI L) :: r) f bc bs) : seg (o_slen b L :: os) t lv (.ref b :: r) f bc bs := ⟨r, rfl, k⟩
def o_cell (b L : Nat) (xs : Nat → Int32) : OP := fun lv st f bc bs k => ∃ r, st = .int 0 :: .ref b :: r ∧ r.length ≤ 4 ∧ L < 2 ^ 31 ∧ k lv (.int (if 0 < L then xs 0 else 0) :: r) f bc bs
theorem i_cell (hL : L < 2 ^ 31) (k : seg os t lv (.int (if 0 < L then xs 0 else 0) :: r) f bc bs) (hr : r.length.ble 4 = true := by rfl) : seg (o_cell b L xs :: os) t lv (.int 0 :: .ref b :: r) f bc bs := ⟨r, rfl, Nat.le_of_ble_eq_true hr, hL, k⟩
theorem sp_cell (hL : L < 2 ^ 31) : CSs l D cid m_W_cell b L xs [.ref b, .int 0] f (fun v f' => v = some (.int (if 0 < L then xs 0 else 0)) ∧ f' = f) := by
  intro X hX hsc
  rcases Nat.lt_or_ge 0 L with h | h
  · refine b_W_cell_0 hX hsc _ _ _ _ _ (i_iload rfl <| i_aload rfl <| i_slen <| i_cmp_f (nI_nle h hL) ?_)
    refine b_W_cell_6 hX hsc _ _ _ _ _ (i_aload rfl <| i_iload rfl <| i_sld ⟨rfl, h, by decide⟩ <| i_end ?_)
    refine b_W_cell_13 hX hsc _ _ _ _ _ (i_iret ?_)
    exact ⟨by rw [if_pos h], rfl⟩
  · have h0 : L = 0 := by omega
    subst h0
    refine b_W_cell_0 hX hsc _ _ _ _ _ (i_iload rfl <| i_aload rfl <| i_slen <| i_cmp_t (Int32.le_refl _) ?_)
    refine b_W_cell_12 hX hsc _ _ _ _ _ (i_push <| i_end ?_)
    refine b_W_cell_13 hX hsc _ _ _ _ _ (i_iret ?_)
    exact ⟨rfl, rfl⟩
theorem ctrS {args : List Value} {sz : Nat} (hy : plainFor M.1 = true) (hn : args.length ≤ M.2.2.1) (hcat : ∀ v ∈ args, v.category = 1) (h : CSs l D cid M b L xs args f Post) :
    Met l M.1 (.code M.1 M.2.1 M.2.2.1 M.2.2.2.1 :: TB) M.2.2.2.2 (PPs D cid args f sz b L xs) (QQ D cid Post (Afs f sz)) M.2.2.2.2.cells M.2.2.2.2.slots (Afs f sz) := by
  refine met_F (cc := M.2.1) (maxL := M.2.2.1) (rt := M.2.2.2.1) hy rfl ?_
  intro p e s m args' below meth c s₁ Bd hml hv
  obtain ⟨rfl, hsz, hW, hK, hEX, hXs, hbs, hfb⟩ := hv
  subst hsz
  have hts := atoms_spec (ws := .code M.1 M.2.1 M.2.2.1 M.2.2.2.1 :: TB) Bd.pre
  have hX : OK l D cid M (p, e, s, m, args.toArray, below, meth, c, Afs f s.heap.size, MQ below (QQ D cid Post (Afs f s.heap.size)) args.toArray s M.2.2.2.2.cells M.2.2.2.2.slots (Afs f s.heap.size)) Post := by
    refine ⟨Bd.exec, Bd.bytes, hml, findClass_of_methodNamed Bd.named, fun w hw => hts w (List.mem_cons_of_mem _ hw), hK, fun q hq => Or.inr hq, fun hi => ?_, hEX, ?_⟩
    · exact (name_of_methodNamed Bd.named Bd.method).1.trans hi
    · intro pc ls H locs cells slots v f' hr hp hw hS hc hs
      refine W.widen hc hs ?_
      have hq : ∀ t : State, t.heap = H → s.WarmedH t.vm → QQ D cid Post (Afs f s.heap.size) args.toArray s (.returned v) t := fun t ht hWm => ⟨⟨v, f', rfl, hp, by rw [ht]; exact hw, va_K.moved hWm.alike hK⟩, hS.F ht⟩
      rcases hr with ⟨rfl, h1, h2⟩ | ⟨x, rfl, h1, h2⟩ | ⟨x, rfl, h0, h1, h2⟩ | ⟨r, n, rfl, h1, h2⟩
      · exact W.vret Bd.exec Bd.bytes (Bd.returns.trans h1) hq hS.2.2 h2
      · exact W.iret Bd.exec Bd.bytes (Bd.returns.trans h1) hq hS.2.2 h2
      · exact W.zret Bd.exec Bd.bytes (Bd.returns.trans h1) (by rcases h0 with rfl | rfl <;> decide) hq hS.2.2 h2
      · exact W.aret Bd.exec Bd.bytes (Bd.returns.trans h1) (Or.inl ⟨n, rfl⟩) (va_rf_or r) hq hS.2.2 h2
  have hl := lv_entry args (n := M.2.2.1) (by rw [sl_len args hcat]; exact hn)
  rw [lg_entry_eq]
  refine h _ hX ⟨hXs, hbs, fun hA => hA.elim (fun ⟨c, hc⟩ => by rw [hfb] at hc; cases hc) (fun h => absurd hbs (Nat.not_lt.mpr h))⟩ s.heap [] 0 0 _ ⟨_, hl, fun i v hv => ?_⟩ (hW.weaken (fun q hq _ => Or.inl hq)) va_S.rf (by omega) (by omega)
  have := args_in args 0 _ i v hcat hv
  rw [Nat.zero_add] at this
  exact this
theorem blindS {args : List Value} {sz : Nat} : FrameBlind (PPs D cid args f sz b L xs) := fun a U g mk q => by
  obtain ⟨q0, q1, qP, qK, qE, qX⟩ := q
  exact ⟨q0, q1, qP, va_K.moved (u := U) (U := U.calling g mk a) (Vm.Alike.refl U.vm) qK, qE.same (U := U.calling g mk a) rfl, qX.1.moved (u := U) (U := U.calling g mk a) (Vm.Alike.refl U.vm), qX.2⟩
theorem so_cell {idx : Nat} (hX : OK l D cid M X Post) (d : decode M.2.1 pc = .ok (.invokestatic idx, 3)) (hcode : Cond.code m_W_cell.1 m_W_cell.2.1 m_W_cell.2.2.1 m_W_cell.2.2.2.1 ∈ TB) (hl : Cond.methodLink M.1.cls idx m_W_cell.1 ∈ TB) (hst : Cond.static m_W_cell.1 ∈ TB) (hini : Cond.initialized m_W_cell.1.cls ∈ TB)
    (hR : m_W_cell.2.2.2.2.frames + 1 ≤ M.2.2.2.2.frames ∧ 8 + (m_W_cell.2.2.1 + 11) + m_W_cell.2.2.2.2.locals ≤ M.2.2.2.2.locals) (hsc : Scr X b L xs) : SO l D cid M X pc (o_cell b L xs) (pc + 3) := by
  intro lv st f bc bs k h hk H locs cells slots ls hlv hw hS hce hsl
  obtain ⟨r, rfl, hr, hL, h⟩ := h
  obtain ⟨Lp, hLp, hP, hD⟩ := id hw
  have hfb : f b = none := by
    cases e : f b with
    | none => rfl
    | some c =>
      obtain ⟨i, hi⟩ := wl_get (cid := cid) hLp e
      exact absurd (hD.2 i _ hi) hsc.2.2
  have hbH : b < H.size := Nat.lt_of_lt_of_le hsc.2.1 hS.1
  have hsum := cat_sum r
  have hXH : va_X b L xs X.2.2.1 H := hsc.1.kept (hS.2.1 b hsc.2.1 hsc.2.2)
  have cw : CallB M.2.2.2.2 X.2.2.1 X.2.2.2.2.1 M.1.cls idx m_W_cell.1 m_W_cell.2.1 m_W_cell.2.2.1 m_W_cell.2.2.2.1 (.code m_W_cell.1 m_W_cell.2.1 m_W_cell.2.2.1 m_W_cell.2.2.2.1 :: TB) m_W_cell.2.2.2.2 m_W_cell.2.2.2.2.cells m_W_cell.2.2.2.2.slots 2 ∧ (Cond.static m_W_cell.1).before X.2.2.2.2.1 X.2.2.1 = true :=
    ⟨callB_of 2 hX.2.2.2.2.1 (good_in hcode) rfl rfl rfl (hX.2.2.2.2.1 _ hini) (hX.2.2.2.2.1 _ hl) ⟨by decide, by decide, by decide +kernel⟩ hR, hX.2.2.2.2.1 _ hst⟩
  have hpost : ∀ v f', (v = some (.int (if 0 < L then xs 0 else 0)) ∧ f' = f) → k lv (vst v r) f' (bc - m_W_cell.2.2.2.2.cells) (bs - m_W_cell.2.2.2.2.slots) := by
    rintro v f' ⟨rfl, rfl⟩
    exact h
  have hM := ctrS (l := l) (D := D) (cid := cid) (f := f) (M := m_W_cell) (args := [.ref b, .int 0]) (sz := H.size) pf_W_cell (show 2 ≤ 2 from Nat.le_refl 2) (fun v hv => by
    rcases List.mem_cons.mp hv with rfl | hv
    · rfl
    · rcases List.mem_cons.mp hv with rfl | hv
      · rfl
      · cases hv) ((sp_cell (b := b) (xs := xs) hL).mono hpost)
  exact call_end (M' := m_W_cell) (f := f) hX (va_runS (As := [.ref b, .int 0]) (rest := r) ⟨hX.1, hX.2.1, hX.2.2.1, hX.2.2.2.1, hX.2.2.2.2.1⟩ hM cw
    ⟨blindS, fun U hU hW => ⟨rfl, by rw [hU], by rw [hU]; exact ⟨Lp, hLp, hP, hD.weaken (fun _ _ _ _ => trivial)⟩, va_K.moved hW.alike hX.2.2.2.2.2.1, hX.2.2.2.2.2.2.2.2.1.warm hW, by rw [hU]; exact hXH.moved hW.alike, hbH, hfb⟩⟩ rfl rfl hlv.size rfl (lv_room (by omega)) d ⟨by show cells + 0 ≤ _; omega, by show slots + 0 ≤ _; omega⟩) hlv hw hS hce hsl (Nat.zero_le _) (Nat.zero_le _) hk
end LAWL
