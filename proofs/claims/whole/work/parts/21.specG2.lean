section SPH
variable {l : Launch} {D : va_G} {cid : Nat → ClassId} {Z : Nat → Prop} {f : HF} {A : Nat → Nat} {N i : Nat} {cs : Nat → PC} {R : RS} {S : GS}
def PH (Z : Nat → Prop) (f : HF) (A : Nat → Nat) (N : Nat) (w : Option Value) (S' : GS) : PT := fun v F' => v = w ∧ ∃ f1 cs', F' = hC (5 + 5 * N) A f1 cs' ∧ Ext f f1 ∧ GRc Z f1 A N cs' S'
theorem RepC.set {f' : HF} {R' : RS} {la' va' : Nat} (hF : Ext f f') (h : RepC Z f A N cs i R) (hi : i < N) (hl : LogR Z f' (rG R') la') (hv : VecR Z f' N va' (rX R')) (ha : rA R' = rA R) (ho : rO R' = rO R) (he : rE R' = rE R) (hr : rR R' = rR R) (hc : b24 (rC R')) : RepC Z f' A N (va_up cs (5 + 5 * i) (.inl (2, robj A i la' va' R'))) i R' := by
  obtain ⟨la, va, h1, h2, h3, h4, h5, h6, h7, h8, h9⟩ := h
  refine ⟨la', va', va_s _ _ _, hl, hv, ?_, ?_, ?_, ?_, hc, ?_⟩
  · rw [ha]
    exact h4.fm (va_n (by omega))
  · rw [ho]
    exact h5.fm hF (va_n (by omega))
  · rw [he]
    exact h6.fm hF (va_n (by omega))
  · rw [hr]
    exact h7.fm hF (va_n (by omega))
  · rw [ha]
    exact h9
theorem sp_send {kind : Int32} {d : Nat} (hE : En Z A N f) (hN : N = 3 ∨ N = 5) (hi : i < N) (hd : d < N) (hG : GRc Z f A N cs S) (hT : gT S < 2 ^ 30) :
    CS l D cid m_G_send [.ref (A 0), .ref (A (5 + 5 * i)), .int kind, .int (nI d)] (hC (5 + 5 * N) A f cs) (PH Z f A N none (g_send S i kind d)) := by
  intro X hX
  have hA := hE.1
  have h5' : 5 + 5 * i < 5 + 5 * N := by omega
  obtain ⟨h0, ⟨g1, e1, n1⟩, ⟨g2, e2, n2⟩, h3, h4, h5⟩ := id hG
  obtain ⟨la, va, r1, r2, r3, r4, r5, r6, r7, r8, r9⟩ := id (h5 i hi)
  refine b_G_send_0 hX _ _ _ _ _ (i_aload rfl <| i_getf (c_cell hA (by omega) h0) rfl <| i_aload rfl <| i_getf (c_cell hA (by omega) h0) rfl <| i_push <| j_rdS (sp_floorMod (by decide)) rfl rfl <| i_new ⟨by decide, by decide⟩ fun q1 hq1 => i_dup <| i_aload rfl <| i_iload rfl <| i_iload rfl <| ?_)
  obtain ⟨qz, qn⟩ := hE.no hq1
  have hqA := (hC_none hq1).1
  have hne : A (5 + 5 * i) ≠ q1 := fun e => hqA ⟨5 + 5 * i, h5', e.symm⟩
  refine j_upI (sp_E_init (i := i) (R := gR S i) (A := A) (la := la) (va := va) (hup_s _ _ _) hne ((hup_n hne).trans (c_cell hA h5' r1))) rfl rfl ?_
  rw [hup_hup, hC_new hq1]
  have hX1 := Ext.new (c := .inl (1, [.int kind, .int (nI i), .int (nI d), .int (rV (gR S i)), .int (rL (gR S i)), .ref va, .ref la, .int (rC (gR S i))])) qn
  refine (c_astq_r ((hC_no hqA).trans (hup_s _ _ _)) hA (by omega) e2 ⟨fm_64 (by omega), Nat.mod_lt _ (by decide), by omega⟩ <| i_aload rfl <| i_dup <| i_getf (c_cell hA (by omega) ((va_n (by decide)).trans h0)) rfl <| i_push <| i_bin <| c_putI hA (by omega) ((va_n (by decide)).trans h0) rfl <| i_ret ?_)
  refine ⟨rfl, _, _, rfl, hX1, ?_, ⟨g1, (va_n (by decide)).trans ((va_n (by decide)).trans e1), n1⟩, ⟨_, (va_n (by decide)).trans (va_s _ _ _), fun k hk hk2 => ?_⟩, h3.fm ((va_n (by decide)).trans (va_n (by decide))), h4.fm ((va_n (by decide)).trans (va_n (by decide))), fun j hj => (h5 j hj).fm hX1 (fun k hk => ?_)⟩
  · rw [va_s]
    have e : nI (gT (g_send S i kind d)) = nI (gT S) + 1 := nI_succ _
    rw [e]
    rfl
  · have hk' : k < gT S + 1 := hk
    have hk2' : gT S + 1 ≤ k + 64 := hk2
    by_cases e : k = gT S
    · refine ⟨q1, by rw [e, va_s], ?_⟩
      show MsgR Z _ N q1 (va_up (gM S) (gT S) (mkM (gR S i) i kind d) k)
      rw [e, va_s]
      exact ⟨qz, va, la, hup_s _ _ _, r3.fm (fun a c _ q => hX1 a c q), r2.fm (fun a c _ q => hX1 a c q), hi, hd, r8⟩
    · obtain ⟨q, hq, hm⟩ := n2 k (by omega) (by omega)
      have hne2 : k % 64 ≠ gT S % 64 := by omega
      refine ⟨q, ?_, ?_⟩
      · rw [va_n hne2]
        exact hq
      · show MsgR Z _ N q (va_up (gM S) (gT S) (mkM (gR S i) i kind d) k)
        rw [va_n e]
        exact hm.fm (fun a c _ q => hX1 a c q)
  · simp only [W5] at hk
    rw [va_n (by omega), va_n (by omega)]
theorem sp_sendToAll {kind : Int32} (hE : En Z A N f) (hN : N = 3 ∨ N = 5) (hi : i < N) (hG : GRc Z f A N cs S) (hT : gT S < 2 ^ 29) :
    CS l D cid m_G_sendToAll [.ref (A 0), .ref (A (5 + 5 * i)), .int kind] (hC (5 + 5 * N) A f cs) (PH Z f A N none (g_all S i kind N)) := by
  intro X hX
  have hA := hE.1
  have h5' : 5 + 5 * i < 5 + 5 * N := by omega
  have loop : ∀ t, t ≤ N → ∀ (f1 : HF) (c1 : Nat → PC), Ext f f1 → GRc Z f1 A N c1 (g_all S i kind t) → ∀ bc bs, N - t ≤ bc → 8 * (N - t) ≤ bs → FR l D cid m_G_sendToAll X 2 [some (.ref (A 0)), some (.ref (A (5 + 5 * i))), some (.int kind), some (.int (nI t))] [] (hC (5 + 5 * N) A f1 c1) bc bs := by
    refine up_to ?_ ?_
    · intro f1 c1 hx hg bc bs hb1 hb2
      refine b_G_sendToAll_2 hX _ _ _ _ _ (i_iload rfl <| i_aload rfl <| i_getf (c_cell hA (by omega) hg.1) rfl <| i_cmp_t (Int32.le_refl _) ?_)
      refine b_G_sendToAll_31 hX _ _ _ _ _ (i_ret ?_)
      exact ⟨rfl, f1, c1, rfl, hx, hg⟩
    · intro t ht ih f1 c1 hx hg bc bs hb1 hb2
      simp only [nI_succ] at ih
      obtain ⟨la, va, r1, r2⟩ := hg.2.2.2.2.2 i hi
      refine b_G_sendToAll_2 hX _ _ _ _ _ (i_iload rfl <| i_aload rfl <| i_getf (c_cell hA (by omega) hg.1) rfl <| i_cmp_f (nI_ge ht (by omega)) ?_)
      refine b_G_sendToAll_10 hX _ _ _ _ _ (i_iload rfl <| i_aload rfl <| i_getf (c_cell hA h5' r1) rfl <| i_cmp ?_ ?_)
      · intro he
        have he' : t = i := (nI_eq (by omega) (by omega)).mp he
        refine b_G_sendToAll_25 hX _ _ _ _ _ (i_iinc rfl <| i_end ?_)
        refine ih f1 c1 hx ?_ _ _ (by omega) (by omega)
        rw [g_all, if_pos he']
        exact hg
      · intro he
        have he' : ¬ t = i := fun q => he (congrArg nI q)
        have hTt := g_all_T S i kind t
        refine b_G_sendToAll_18 hX _ _ _ _ _ (i_aload rfl <| i_aload rfl <| i_iload rfl <| i_iload rfl <| ?_)
        refine j_callV (c_cell hA (by omega) hg.1) (sp_send (i := i) (d := t) (kind := kind) (hE.ext hx) hN hi ht hg (by omega)) rfl rfl ?_ (h4 := ?_) (h5 := ?_)
        · rintro v F' ⟨rfl, f2, c2, rfl, hx2, hg2⟩
          refine (i_end ?_)
          refine b_G_sendToAll_25 hX _ _ _ _ _ (i_iinc rfl <| i_end ?_)
          refine ih f2 c2 (hx.trans hx2) ?_ _ _ ?_ ?_
          · rw [g_all, if_neg he']
            exact hg2
          · show N - (t + 1) ≤ bc - 1
            omega
          · show 8 * (N - (t + 1)) ≤ bs - 8
            omega
        · show 1 ≤ bc
          omega
        · show 8 ≤ bs
          omega
  refine b_G_sendToAll_0 hX _ _ _ _ _ (i_push <| i_istore <| i_end ?_)
  refine loop 0 (Nat.zero_le _) f cs (ext_r f) hG _ _ ?_ ?_
  · show N - 0 ≤ 5
    omega
  · show 8 * (N - 0) ≤ 40
    omega
theorem sp_hears {F : HF} {p q la va va' la' : Nat} {m : Msg} (hp : F p = some (.inl (2, robj A i la va R))) (hq : F q = some (.inl (1, [.int (mK m), .int (nI (mS m)), .int (nI (mD m)), .int (mV m), .int (mL m), .ref va', .ref la', .int (mC m)]))) :
    CS l D cid m_G_hears [.ref p, .ref q] F (fun v f' => v = some (.int (bI (decide (hears R m)))) ∧ f' = F) := by
  intro X hX
  have fin : ∀ (b : Bool) (bc bs : Nat), b = decide (hears R m) → FR l D cid m_G_hears X 43 [some (.ref p), some (.ref q)] [.int (bI b)] F bc bs := by
    intro b bc bs hb
    refine b_G_hears_43 hX _ _ _ _ _ (i_zret ?_)
    exact ⟨by rw [hb], rfl⟩
  have h21 : ∀ (b1 : Bool) (bc bs : Nat), ¬ rS R = 3 → b1 = decide (rS R = 2) → FR l D cid m_G_hears X 21 [some (.ref p), some (.ref q)] [.int (bI b1)] F bc bs := by
    intro b1 bc bs h3 hb1
    have h35 : ∀ (b2 : Bool) (bc bs : Nat), b2 = decide (mK m = 8) → FR l D cid m_G_hears X 35 [some (.ref p), some (.ref q)] [.int (bI b2), .int (bI b1)] F bc bs := by
      intro b2 bc bs hb2
      have key : (bI b1 = bI b2) ↔ (rS R = 2 ↔ mK m = 8) := by
        subst hb1 hb2
        by_cases c1 : rS R = 2 <;> by_cases c2 : mK m = 8 <;> simp [c1, c2, bI]
      refine b_G_hears_35 hX _ _ _ _ _ (i_cmp ?_ ?_)
      · intro hn
        refine b_G_hears_42 hX _ _ _ _ _ (i_push <| i_end ?_)
        exact fin false _ _ (decide_eq_false (fun q => hn (key.mpr q.2))).symm
      · intro hn
        refine b_G_hears_38 hX _ _ _ _ _ (i_push <| i_end ?_)
        exact fin true _ _ (decide_eq_true (show hears R m from ⟨h3, key.mp (Classical.not_not.mp hn)⟩)).symm
    refine b_G_hears_21 hX _ _ _ _ _ (i_aload rfl <| i_getf hq rfl <| i_push <| i_cmp ?_ ?_)
    · intro hn
      refine b_G_hears_34 hX _ _ _ _ _ (i_push <| i_end ?_)
      exact h35 false _ _ (decide_eq_false hn).symm
    · intro hn
      refine b_G_hears_30 hX _ _ _ _ _ (i_push <| i_end ?_)
      exact h35 true _ _ (decide_eq_true (Classical.not_not.mp hn)).symm
  refine b_G_hears_0 hX _ _ _ _ _ (i_aload rfl <| i_getf hp rfl <| i_push <| i_cmp ?_ ?_)
  · intro h3
    refine b_G_hears_42 hX _ _ _ _ _ (i_push <| i_end ?_)
    exact fin false _ _ (decide_eq_false (fun q => q.1 h3)).symm
  · intro h3
    refine b_G_hears_8 hX _ _ _ _ _ (i_aload rfl <| i_getf hp rfl <| i_push <| i_cmp ?_ ?_)
    · intro hn
      refine b_G_hears_20 hX _ _ _ _ _ (i_push <| i_end ?_)
      exact h21 false _ _ h3 (decide_eq_false hn).symm
    · intro hn
      refine b_G_hears_16 hX _ _ _ _ _ (i_push <| i_end ?_)
      exact h21 true _ _ h3 (decide_eq_true (Classical.not_not.mp hn)).symm
theorem sp_isOutdated {F : HF} {p q la va va' la' : Nat} {m : Msg} (hN : N ≤ 5) (hi : i < N) (hms : mS m < N) (hp : F p = some (.inl (2, robj A i la va R))) (hq : F q = some (.inl (1, [.int (mK m), .int (nI (mS m)), .int (nI (mD m)), .int (mV m), .int (mL m), .ref va', .ref la', .int (mC m)]))) (hv : VecR Z F N va (rX R)) (hv' : VecR Z F N va' (mX m)) :
    CS l D cid m_G_isOutdated [.ref p, .ref q] F (fun v f' => v = some (.int (bI (decide (outdated R m i)))) ∧ f' = F) := by
  intro X hX
  obtain ⟨vz, g, hg, ng⟩ := hv
  obtain ⟨vz', g', hg', ng'⟩ := hv'
  have fin : ∀ (b : Bool) (bc bs : Nat), b = decide (outdated R m i) → FR l D cid m_G_isOutdated X 56 [some (.ref p), some (.ref q)] [.int (bI b)] F bc bs := by
    intro b bc bs hb
    refine b_G_isOutdated_56 hX _ _ _ _ _ (i_zret ?_)
    exact ⟨by rw [hb], rfl⟩
  refine b_G_isOutdated_0 hX _ _ _ _ _ (i_aload rfl <| i_getf hq rfl <| i_aload rfl <| i_getf hq rfl <| i_ald hg' ⟨rfl, hms, by omega⟩ <| i_aload rfl <| i_getf hp rfl <| i_aload rfl <| i_getf hq rfl <| i_ald hg ⟨rfl, hms, by omega⟩ <| i_cmp ?_ ?_)
  · intro h
    rw [ng' _ hms, ng _ hms] at h
    refine b_G_isOutdated_51 hX _ _ _ _ _ (i_push <| i_end ?_)
    exact fin true _ _ (decide_eq_true (show outdated R m i from Or.inl h)).symm
  · intro h
    rw [ng' _ hms, ng _ hms] at h
    refine b_G_isOutdated_21 hX _ _ _ _ _ (i_aload rfl <| i_getf hq rfl <| i_push <| i_cmp ?_ ?_)
    · intro h8
      refine b_G_isOutdated_55 hX _ _ _ _ _ (i_push <| i_end ?_)
      exact fin false _ _ (decide_eq_false (fun z : outdated R m i => z.elim h (fun y => h8 y.1))).symm
    · intro h8
      have h8' := Classical.not_not.mp h8
      refine b_G_isOutdated_30 hX _ _ _ _ _ (i_aload rfl <| i_getf hq rfl <| i_aload rfl <| i_getf hp rfl <| i_ald hg' ⟨rfl, hi, by omega⟩ <| i_aload rfl <| i_getf hp rfl <| i_aload rfl <| i_getf hp rfl <| i_ald hg ⟨rfl, hi, by omega⟩ <| i_cmp ?_ ?_)
      · intro he
        rw [ng' _ hi, ng _ hi] at he
        refine b_G_isOutdated_55 hX _ _ _ _ _ (i_push <| i_end ?_)
        exact fin false _ _ (decide_eq_false (fun z : outdated R m i => z.elim h (fun y => y.2 he))).symm
      · intro he
        rw [ng' _ hi, ng _ hi] at he
        refine b_G_isOutdated_51 hX _ _ _ _ _ (i_push <| i_end ?_)
        exact fin true _ _ (decide_eq_true (show outdated R m i from Or.inr ⟨h8', he⟩)).symm
theorem sp_replyIfNormal {ma : Nat} {kind : Int32} {m : Msg} (hE : En Z A N f) (hN : N = 3 ∨ N = 5) (hi : i < N) (hm : MsgR Z f N ma m) (hG : GRc Z f A N cs S) (hT : gT S < 2 ^ 30) :
    CS l D cid m_G_replyIfNormal [.ref (A 0), .ref (A (5 + 5 * i)), .ref ma, .int kind] (hC (5 + 5 * N) A f cs) (PH Z f A N none (g_reply S i m kind)) := by
  intro X hX
  have hA := hE.1
  have h5' : 5 + 5 * i < 5 + 5 * N := by omega
  obtain ⟨la, va, r1, r2⟩ := hG.2.2.2.2.2 i hi
  obtain ⟨mz, mva, mla, m1, m2, m3, m4, m5, m6⟩ := hm
  refine b_G_replyIfNormal_0 hX _ _ _ _ _ (i_aload rfl <| i_getf (c_cell hA h5' r1) rfl <| i_if ?_ ?_)
  · intro h
    refine b_G_replyIfNormal_17 hX _ _ _ _ _ (i_ret ?_)
    refine ⟨rfl, f, cs, rfl, ext_r f, ?_⟩
    rw [g_reply, if_neg h]
    exact hG
  · intro h
    refine b_G_replyIfNormal_7 hX _ _ _ _ _ (i_aload rfl <| i_aload rfl <| i_iload rfl <| i_aload rfl <| i_getf (hE.im _ _ mz m1) rfl <| ?_)
    refine j_callV (c_cell hA (by omega) hG.1) (sp_send (i := i) (d := mS m) (kind := kind) hE hN hi m4 hG hT) rfl rfl ?_
    rintro v F' ⟨rfl, f2, c2, rfl, hx2, hg2⟩
    refine (i_end ?_)
    refine b_G_replyIfNormal_17 hX _ _ _ _ _ (i_ret ?_)
    refine ⟨rfl, f2, c2, rfl, hx2, ?_⟩
    rw [g_reply, if_pos (Classical.not_not.mp h)]
    exact hg2
end SPH
